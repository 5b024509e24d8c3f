/** Promises 10 to 13 at their bounds: a story for each parameter below, at and above its range. */
public final class ThingBoundsTest {
    private static final Check CHECK = new Check("ThingBoundsTest");

    public static void main(String[] args) {
        promise10Day();
        promise11Find();
        promise11Day();
        promise11NotCounting();
        promise12Find();
        promise12Attribute();
        promise12Day();
        promise12NotCounting();
        promise12Untold();
        promise13Attribute();
        promise13Day();
        promise13Unlike();
        CHECK.end();
    }

    private static Story story(String sentence) {
        return new Story(CHECK, sentence);
    }

    /** The finds 0 and 2 of one thing, whose attributes are disputed, the find 1 of another one. */
    private static Story withThree(String sentence) {
        return story(sentence).calls("find(0, 1, 0, 0, 10, 20)", "find(1, 2, 0, 0, 11, 21)",
                "find(2, 1, 0, 0, 12, 20)");
    }

    /** The same, all of them of the last day. */
    private static Story withThreeOnTheLastDay(String sentence) {
        return story(sentence).each(1, 9, "pass(1000)").calls("pass(999) = 9999",
                "find(0, 1, 0, 0, 10, 20)", "find(1, 2, 0, 0, 11, 21)", "find(2, 1, 0, 0, 12, 20)");
    }

    private static void promise10Day() {
        withThree("10: day -1").calls("things(-1) : I", "things(MIN) : I").end();
        withThree("10: day 0").calls("things(0) = 2").end();
        withThreeOnTheLastDay("10: day 9999").calls("things(9998) = 0", "things(9999) = 2").end();
        withThree("10: day 10000").calls("things(10000) : I", "things(MAX) : I").end();
        withThree("10: the last day that finds of the day 0 count").calls("things(30) = 2",
                "things(31) = 0").end();
        withThree("10: every find is struck").calls("strike(0)", "things(0) = 2", "strike(1)",
                "things(0) = 1", "strike(2)", "things(0) = 0").end();
    }

    private static void promise11Find() {
        withThree("11: find -1").calls("thingOf(-1, 0) : B", "thingOf(MIN, 0) : B").end();
        withThree("11: find 0").calls("thingOf(0, 0) = 0").end();
        withThree("11: find 2, the last").calls("thingOf(2, 0) = 0").end();
        withThree("11: find 3, which has not come").calls("thingOf(3, 0) : B", "thingOf(60, 0) : B",
                "thingOf(MAX, 0) : B").end();
    }

    private static void promise11Day() {
        withThree("11: day -1").calls("thingOf(1, -1) : I", "thingOf(1, MIN) : I").end();
        withThree("11: day 0").calls("thingOf(1, 0) = 1").end();
        withThreeOnTheLastDay("11: day 9999").calls("thingOf(1, 9999) = 1", "thingOf(2, 9999) = 0",
                "thingOf(1, 9998) : N").end();
        withThree("11: day 10000").calls("thingOf(1, 10000) : I", "thingOf(1, MAX) : I").end();
    }

    private static void promise11NotCounting() {
        story("11: the day before it came").calls("pass(1)", "find(0, 1, 0, 0, 1, 1)",
                "thingOf(0, 0) : N", "thingOf(0, 1) = 0").end();
        story("11: the day after its term").calls("find(0, 1, 0, 0, 1, 1)", "thingOf(0, 30) = 0",
                "thingOf(0, 31) : N").end();
        withThree("11: a struck find").calls("strike(0)", "thingOf(0, 0) : N",
                "thingOf(2, 0) = 2").end();
        withThree("11: the lowest find that counts, not the lowest").calls("setTerm(0, 5)",
                "thingOf(2, 5) = 0", "thingOf(2, 6) = 2").end();
    }

    private static void promise12Find() {
        withThree("12: find -1").calls("value(-1, 0, 0) : B", "value(MIN, 0, 0) : B").end();
        withThree("12: find 0").calls("value(0, 0, 0) = 10").end();
        withThree("12: find 2, the last").calls("putFirst(2)", "value(2, 0, 0) = 12").end();
        withThree("12: find 3, which has not come").calls("value(3, 0, 0) : B",
                "value(60, 0, 0) : B", "value(MAX, 0, 0) : B").end();
    }

    private static void promise12Attribute() {
        withThree("12: attribute -1").calls("value(1, -1, 0) : I", "value(1, MIN, 0) : I").end();
        withThree("12: attribute 0").calls("value(1, 0, 0) = 11").end();
        withThree("12: attribute 1").calls("value(1, 1, 0) = 21").end();
        withThree("12: attribute 2").calls("value(1, 2, 0) : I", "value(1, MAX, 0) : I").end();
    }

    private static void promise12Day() {
        withThree("12: day -1").calls("value(1, 0, -1) : I", "value(1, 0, MIN) : I").end();
        withThree("12: day 0").calls("value(1, 0, 0) = 11").end();
        withThreeOnTheLastDay("12: day 9999").calls("value(1, 0, 9999) = 11",
                "value(2, 1, 9999) = 20", "value(1, 0, 9998) : N").end();
        withThree("12: day 10000").calls("value(1, 0, 10000) : I", "value(1, 0, MAX) : I").end();
    }

    private static void promise12NotCounting() {
        story("12: the day before it came").calls("pass(1)", "find(0, 1, 0, 0, 1, 1)",
                "value(0, 0, 0) : N", "value(0, 0, 1) = 1").end();
        story("12: the day after its term").calls("find(0, 1, 0, 0, 1, 1)", "value(0, 1, 30) = 1",
                "value(0, 1, 31) : N").end();
        withThree("12: a struck find").calls("strike(0)", "value(0, 0, 0) : N",
                "value(2, 0, 0) = 12").end();
    }

    private static void promise12Untold() {
        story("12: -1 if no find of the thing tells it").calls("find(0, 1, 0, 0, -1, 3)",
                "find(1, 1, 0, 0, -1, 4)", "find(2, 2, 0, 0, 7, -1)", "value(0, 0, 0) = -1",
                "value(1, 0, 0) = -1", "value(2, 1, 0) = -1", "value(2, 0, 0) = 7").end();
        story("12: one find of the last source tells it").calls("find(0, 1, 0, 0, -1, -1)",
                "find(3, 1, 0, 0, 0, -1)", "value(0, 0, 0) = 0", "value(0, 1, 0) = -1").end();
    }

    private static void promise13Attribute() {
        withThree("13: attribute -1").calls("disputed(-1, 0) : I", "disputed(MIN, 0) : I").end();
        withThree("13: attribute 0").calls("disputed(0, 0) = 1").end();
        withThree("13: attribute 1").calls("disputed(1, 0) = 0", "find(3, 2, 0, 0, 11, 22)",
                "disputed(1, 0) = 1").end();
        withThree("13: attribute 2").calls("disputed(2, 0) : I", "disputed(MAX, 0) : I").end();
    }

    private static void promise13Day() {
        withThree("13: day -1").calls("disputed(0, -1) : I", "disputed(0, MIN) : I").end();
        withThree("13: day 0").calls("disputed(0, 0) = 1").end();
        withThreeOnTheLastDay("13: day 9999").calls("disputed(0, 9999) = 1",
                "disputed(0, 9998) = 0").end();
        withThree("13: day 10000").calls("disputed(0, 10000) : I", "disputed(0, MAX) : I").end();
        withThree("13: attribute and day both out of range").calls("disputed(2, -1) : I",
                "disputed(-1, 10000) : I").end();
    }

    private static void promise13Unlike() {
        story("13: one find alone").calls("find(0, 1, 0, 0, 5, 5)", "disputed(0, 0) = 0").end();
        story("13: two like values").calls("find(0, 1, 0, 0, 5, 5)", "find(1, 1, 0, 0, 5, 5)",
                "disputed(0, 0) = 0").end();
        story("13: a value and none").calls("find(0, 1, 0, 0, 0, 5)", "find(1, 1, 0, 0, -1, 5)",
                "disputed(0, 0) = 0").end();
        story("13: none and a value").calls("find(0, 1, 0, 0, -1, 5)", "find(1, 1, 0, 0, 0, 5)",
                "disputed(0, 0) = 0").end();
        story("13: a value, none, another value").calls("find(0, 1, 0, 0, 0, 5)",
                "find(1, 1, 0, 0, -1, 5)", "find(2, 1, 0, 0, 1, 5)", "disputed(0, 0) = 1").end();
        story("13: the least and the greatest value").calls("find(0, 1, 0, 0, 0, 5)",
                "find(0, 1, 0, 0, 99, 5)", "disputed(0, 0) = 1", "disputed(1, 0) = 0").end();
        story("13: the greatest and then the least value").calls("find(0, 1, 0, 0, 99, 5)",
                "find(0, 1, 0, 0, 0, 5)", "disputed(0, 0) = 1", "disputed(1, 0) = 0").end();
        story("13: a thing with three unlike values counts once").calls("find(0, 1, 0, 0, 0, 5)",
                "find(0, 1, 0, 0, 1, 5)", "find(0, 1, 0, 0, 2, 5)", "disputed(0, 0) = 1").end();
        story("13: unlike values of two things").calls("find(0, 1, 0, 0, 0, 5)",
                "find(0, 2, 0, 0, 1, 5)", "disputed(0, 0) = 0").end();
        story("13: one of the two does not count on that day").calls("find(0, 1, 0, 0, 0, 5)",
                "pass(1)", "find(0, 1, 0, 0, 1, 5)", "disputed(0, 0) = 0", "disputed(0, 1) = 1",
                "disputed(0, 30) = 1", "disputed(0, 31) = 0").end();
    }
}
