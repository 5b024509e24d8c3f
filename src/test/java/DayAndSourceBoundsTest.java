/** Promises 1 to 5 at their bounds: a story for each parameter below, at and above its range. */
public final class DayAndSourceBoundsTest {
    private static final Check CHECK = new Check("DayAndSourceBoundsTest");

    public static void main(String[] args) {
        promise1();
        promise2Days();
        promise2LastDay();
        promise3();
        promise4Source();
        promise4Days();
        promise5Source();
        promise5Places();
        CHECK.end();
    }

    private static Story story(String sentence) {
        return new Story(CHECK, sentence);
    }

    private static void promise1() {
        story("1: a new object is on the day 0").calls("today() = 0").end();
        story("1: a new register has no find").calls("counts(0, 0) : B").end();
        story("1: a new register has no thing").calls("things(0) = 0", "things(9999) = 0").end();
        story("1: a new register has no wish").calls("differing(0, 0) : B").end();
        story("1: a new register has no link").calls("find(0, 1, 0, 0, -1, -1)",
                "find(0, 2, 0, 0, -1, -1)", "impact(0, 0) = 1", "link(0, 1, 0) = 1").end();
        story("1: the term of each source is at first 30").calls("setTerm(0, 1) = 30",
                "setTerm(1, 1) = 30", "setTerm(2, 1) = 30", "setTerm(3, 1) = 30").end();
        story("1: the order is 0, 1, 2, 3 at first").calls("putFirst(3) = 3", "putFirst(2) = 3",
                "putFirst(1) = 3", "putFirst(0) = 3").end();
    }

    private static void promise2Days() {
        story("2: days 0, just too few").calls("pass(0) : I", "today() = 0").end();
        story("2: days below 0").calls("pass(-1) : I", "pass(MIN) : I", "today() = 0").end();
        story("2: days 1, the fewest").calls("pass(1) = 1", "today() = 1").end();
        story("2: days 1000, the most").calls("pass(1000) = 1000", "today() = 1000").end();
        story("2: days 1001, just too many").calls("pass(1001) : I", "today() = 0").end();
        story("2: days far too many, with a sum that wraps around").calls("pass(7)",
                "pass(MAX) : I", "pass(2147483640) : I", "today() = 7").end();
    }

    private static void promise2LastDay() {
        story("2: to the day 9998").each(1, 9, "pass(1000)").calls("pass(998) = 9998").end();
        story("2: to the day 9999, the last").each(1, 9, "pass(1000)").calls("pass(999) = 9999",
                "today() = 9999").end();
        story("2: to the day 10000, just too late").each(1, 9, "pass(1000)")
                .calls("pass(1000) : S", "today() = 9000", "pass(999) = 9999").end();
        story("2: 1 day from 9998").each(1, 9, "pass(1000)").calls("pass(998)", "pass(1) = 9999").end();
        story("2: 2 days from 9998").each(1, 9, "pass(1000)").calls("pass(998)", "pass(2) : S",
                "today() = 9998").end();
        story("2: 1 day from 9999").each(1, 9, "pass(1000)").calls("pass(999)", "pass(1) : S",
                "today() = 9999").end();
        story("2: 1000 days from 9999").each(1, 9, "pass(1000)").calls("pass(999)", "pass(1000) : S",
                "today() = 9999").end();
        story("2: days out of range is documented before a day too late").each(1, 9, "pass(1000)")
                .calls("pass(999)", "pass(0) : I", "pass(1001) : I", "pass(MAX) : I",
                        "pass(MIN) : I", "today() = 9999").end();
    }

    private static void promise3() {
        story("3: the first day").calls("today() = 0").end();
        story("3: the last day").each(1, 9, "pass(1000)").calls("pass(999)", "today() = 9999").end();
        story("3: a question about another day does not change today").calls("pass(5)", "things(0)",
                "things(9999)", "changed(0, 0, 9999)", "today() = 5").end();
    }

    private static void promise4Source() {
        story("4: source -1").calls("setTerm(-1, 5) : I", "setTerm(MIN, 5) : I").end();
        story("4: source 0").calls("find(0, 1, 0, 0, -1, -1)", "setTerm(0, 5) = 30",
                "counts(0, 5) = true", "counts(0, 6) = false", "setTerm(1, 5) = 30",
                "setTerm(0, 7) = 5").end();
        story("4: source 3").calls("find(3, 1, 0, 0, -1, -1)", "setTerm(3, 5) = 30",
                "counts(0, 5) = true", "counts(0, 6) = false", "setTerm(2, 5) = 30",
                "setTerm(3, 7) = 5").end();
        story("4: source 4").calls("setTerm(4, 5) : I", "setTerm(MAX, 5) : I").end();
    }

    private static void promise4Days() {
        story("4: days 0").calls("find(1, 1, 0, 0, -1, -1)", "setTerm(1, 0) : I",
                "setTerm(1, -1) : I", "setTerm(1, MIN) : I", "counts(0, 30) = true",
                "setTerm(1, 4) = 30").end();
        story("4: days 1").calls("find(1, 1, 0, 0, -1, -1)", "setTerm(1, 1) = 30",
                "counts(0, 0) = true", "counts(0, 1) = true", "counts(0, 2) = false",
                "setTerm(1, 2) = 1").end();
        story("4: days 999").calls("find(1, 1, 0, 0, -1, -1)", "setTerm(1, 999) = 30",
                "counts(0, 999) = true", "counts(0, 1000) = false", "setTerm(1, 2) = 999").end();
        story("4: days 1000").calls("find(1, 1, 0, 0, -1, -1)", "setTerm(1, 1000) : I",
                "setTerm(1, MAX) : I", "counts(0, 31) = false", "setTerm(1, 4) = 30").end();
        story("4: source and days both out of range").calls("setTerm(-1, 0) : I",
                "setTerm(4, 1000) : I").end();
    }

    private static void promise5Source() {
        story("5: source -1").calls("putFirst(-1) : I", "putFirst(MIN) : I").end();
        story("5: source 0").calls("putFirst(0) = 0", "putFirst(3) = 3").end();
        story("5: source 3").calls("putFirst(3) = 3", "putFirst(3) = 0").end();
        story("5: source 4").calls("putFirst(4) : I", "putFirst(MAX) : I").end();
    }

    private static void promise5Places() {
        story("5: the first one put first changes no place").calls("putFirst(0) = 0",
                "putFirst(3) = 3", "putFirst(2) = 3", "putFirst(1) = 3", "putFirst(0) = 3").end();
        story("5: the last one put first: the others follow").calls("putFirst(3) = 3",
                "putFirst(2) = 3", "putFirst(1) = 3", "putFirst(0) = 3", "putFirst(3) = 3").end();
        story("5: the second one put first: those behind it stay").calls("putFirst(1) = 1",
                "putFirst(3) = 3", "putFirst(2) = 3", "putFirst(0) = 3").end();
        story("5: the third one put first: those before it follow").calls("putFirst(2) = 2",
                "putFirst(1) = 2", "putFirst(0) = 2", "putFirst(3) = 3").end();
    }
}
