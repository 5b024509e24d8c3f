/** Promises 6 to 9 at their bounds: a story for each parameter below, at and above its range. */
public final class FindBoundsTest {
    private static final Check CHECK = new Check("FindBoundsTest");

    public static void main(String[] args) {
        promise6Source();
        promise6Marks();
        promise6Attributes();
        promise6Days();
        promise7Find();
        promise7Again();
        promise8Finds();
        promise8BothTheSame();
        promise8Told();
        promise9Find();
        promise9Day();
        promise9Term();
        CHECK.end();
    }

    private static Story story(String sentence) {
        return new Story(CHECK, sentence);
    }

    /** Three finds, each a thing of its own, on the day 2. */
    private static Story withThree(String sentence) {
        return story(sentence).calls("pass(2)").each(0, 2, "find(#, @, 0, 0, #, -1) = #");
    }

    private static void promise6Source() {
        story("6: source -1").calls("find(-1, 1, 1, 1, 1, 1) : I", "find(MIN, 1, 1, 1, 1, 1) : I",
                "find(0, 1, 1, 1, 1, 1) = 0").end();
        story("6: source 0").calls("setTerm(0, 2)", "find(0, 1, 1, 1, 1, 1) = 0",
                "counts(0, 2) = true", "counts(0, 3) = false").end();
        story("6: source 3").calls("setTerm(3, 2)", "find(3, 1, 1, 1, 1, 1) = 0",
                "counts(0, 2) = true", "counts(0, 3) = false").end();
        story("6: source 4").calls("find(4, 1, 1, 1, 1, 1) : I", "find(MAX, 1, 1, 1, 1, 1) : I",
                "find(3, 1, 1, 1, 1, 1) = 0").end();
    }

    private static void promise6Marks() {
        String[] marks = {"serial", "name", "address"};
        String[] calls = {"find(0, #, 1, 1, 1, 1)", "find(0, 1, #, 1, 1, 1)",
            "find(0, 1, 1, #, 1, 1)"};
        for (int mark = 0; mark < 3; mark++) {
            String call = calls[mark];
            story("6: " + marks[mark] + " -1").calls(call.replace("#", "-1") + " : I",
                    call.replace("#", "MIN") + " : I", call.replace("#", "0") + " = 0").end();
            story("6: " + marks[mark] + " 0").calls(call.replace("#", "0") + " = 0",
                    "things(0) = 1").end();
            story("6: " + marks[mark] + " 99").calls("wish(" + mark + ", 99, 0, 0)",
                    "wish(" + mark + ", 98, 0, 0)", call.replace("#", "99") + " = 0",
                    "differing(0, 0) = 1", "differing(1, 0) = 0").end();
            story("6: " + marks[mark] + " 100").calls(call.replace("#", "100") + " : I",
                    call.replace("#", "MAX") + " : I", call.replace("#", "99") + " = 0").end();
        }
    }

    private static void promise6Attributes() {
        String[] attributes = {"first", "second"};
        String[] calls = {"find(0, 1, 1, 1, #, 50)", "find(0, 1, 1, 1, 50, #)"};
        for (int attribute = 0; attribute < 2; attribute++) {
            String call = calls[attribute];
            String value = "value(0, " + attribute + ", 0) = ";
            String otherValue = "value(0, " + (1 - attribute) + ", 0) = 50";
            String name = "6: " + attributes[attribute] + " ";
            story(name + "-2").calls(call.replace("#", "-2") + " : I",
                    call.replace("#", "MIN") + " : I", "things(0) = 0").end();
            story(name + "-1").calls(call.replace("#", "-1") + " = 0", value + "-1", otherValue).end();
            story(name + "0").calls(call.replace("#", "0") + " = 0", value + "0", otherValue).end();
            story(name + "99").calls(call.replace("#", "99") + " = 0", value + "99", otherValue).end();
            story(name + "100").calls(call.replace("#", "100") + " : I",
                    call.replace("#", "MAX") + " : I", "things(0) = 0").end();
        }
    }

    private static void promise6Days() {
        story("6: a find of the first day").calls("find(0, 1, 0, 0, 1, 1) = 0",
                "counts(0, 0) = true").end();
        story("6: a find of the last day").each(1, 9, "pass(1000)").calls("pass(999)",
                "find(0, 1, 0, 0, 1, 1) = 0", "counts(0, 9999) = true", "counts(0, 9998) = false").end();
        story("6: a find is of the present day, not of one before").calls("pass(3)",
                "find(0, 1, 0, 0, 1, 1)", "counts(0, 2) = false", "counts(0, 3) = true").end();
    }

    private static void promise7Find() {
        withThree("7: find -1").calls("strike(-1) : B", "strike(MIN) : B", "things(2) = 3").end();
        withThree("7: find 0, the first").calls("strike(0) = true", "counts(0, 2) = false",
                "counts(1, 2) = true", "counts(2, 2) = true").end();
        withThree("7: find 2, the last").calls("strike(2) = true", "counts(2, 2) = false",
                "counts(1, 2) = true", "counts(0, 2) = true").end();
        withThree("7: find 3, which has not come").calls("strike(3) : B", "strike(60) : B",
                "strike(MAX) : B", "things(2) = 3").end();
        withThree("7: a find that came after a refused strike stands").calls("strike(3) : B",
                "find(0, 9, 0, 0, 1, 1) = 3", "counts(3, 2) = true").end();
    }

    private static void promise7Again() {
        withThree("7: not struck out before").calls("strike(1) = true").end();
        withThree("7: struck out before").calls("strike(1) = true", "strike(1) = false",
                "strike(1) = false", "counts(1, 2) = false").end();
        withThree("7: it counts on no day any more").calls("strike(1) = true", "counts(1, 0) = false",
                "counts(1, 2) = false", "counts(1, 32) = false", "counts(1, 9999) = false").end();
        withThree("7: a find that counts no more by its term was not struck out before")
                .calls("pass(100)", "strike(1) = true", "strike(1) = false").end();
    }

    private static void promise8Finds() {
        withThree("8: one -1").calls("tell(-1, 1, 1) : B", "tell(MIN, 1, 1) : B").end();
        withThree("8: one 0").calls("tell(0, 1, 1) = 0", "tell(0, 1, 0) = 1").end();
        withThree("8: one 2, the last").calls("tell(2, 1, 1) = 0", "thingOf(2, 2) = 1",
                "tell(2, 1, 0) = 1").end();
        withThree("8: one 3, which has not come").calls("tell(3, 1, 1) : B", "tell(60, 1, 1) : B",
                "tell(MAX, 1, 1) : B").end();
        withThree("8: other -1").calls("tell(1, -1, 1) : B", "tell(1, MIN, 1) : B").end();
        withThree("8: other 0").calls("tell(1, 0, 1) = 0", "tell(1, 0, 0) = 1").end();
        withThree("8: other 2, the last").calls("tell(1, 2, 1) = 0", "thingOf(2, 2) = 1",
                "tell(1, 2, 0) = 1").end();
        withThree("8: other 3, which has not come").calls("tell(1, 3, 1) : B", "tell(1, 60, 1) : B",
                "tell(1, MAX, 1) : B").end();
        story("8: no find has come").calls("tell(0, 1, 1) : B", "tell(0, 0, 1) : B").end();
    }

    private static void promise8BothTheSame() {
        withThree("8: both are the find 0").calls("tell(0, 0, 1) : I", "tell(0, 0, 0) : I").end();
        withThree("8: both are the last find").calls("tell(2, 2, 2) : I").end();
        withThree("8: two finds side by side").calls("tell(0, 1, 2) = 0", "tell(1, 0, 0) = 2").end();
    }

    private static void promise8Told() {
        withThree("8: told -1").calls("tell(0, 1, 1)", "tell(0, 1, -1) : I", "tell(0, 1, MIN) : I",
                "tell(0, 1, 1) = 1").end();
        withThree("8: told 0 at first").calls("tell(0, 1, 0) = 0", "things(2) = 3").end();
        withThree("8: told 0, nothing is told any more").calls("tell(0, 1, 1)", "things(2) = 2",
                "tell(0, 1, 0) = 1", "things(2) = 3", "tell(0, 1, 0) = 0").end();
        withThree("8: told 1").calls("tell(0, 1, 1) = 0", "things(2) = 2", "tell(0, 1, 1) = 1").end();
        withThree("8: told 2").calls("find(0, 1, 0, 0, 1, 1) = 3", "things(2) = 3",
                "tell(0, 3, 2) = 0", "things(2) = 4", "tell(0, 3, 2) = 2").end();
        withThree("8: told 3").calls("tell(0, 1, 2)", "tell(0, 1, 3) : I", "tell(0, 1, MAX) : I",
                "tell(0, 1, 2) = 2").end();
    }

    private static void promise9Find() {
        withThree("9: find -1").calls("counts(-1, 2) : B", "counts(MIN, 2) : B").end();
        withThree("9: find 0").calls("counts(0, 2) = true").end();
        withThree("9: find 2, the last").calls("counts(2, 2) = true").end();
        withThree("9: find 3, which has not come").calls("counts(3, 2) : B", "counts(60, 2) : B",
                "counts(MAX, 2) : B").end();
    }

    private static void promise9Day() {
        story("9: day -1").calls("find(0, 1, 0, 0, 1, 1)", "counts(0, -1) : I",
                "counts(0, MIN) : I").end();
        story("9: day 0").calls("find(0, 1, 0, 0, 1, 1)", "counts(0, 0) = true").end();
        story("9: day 9999").each(1, 9, "pass(1000)").calls("pass(969)", "find(0, 1, 0, 0, 1, 1)",
                "counts(0, 9998) = true", "counts(0, 9999) = true").end();
        story("9: day 9999 of a find of the day 9968").each(1, 9, "pass(1000)").calls("pass(968)",
                "find(0, 1, 0, 0, 1, 1)", "counts(0, 9998) = true", "counts(0, 9999) = false").end();
        story("9: day 10000").calls("find(0, 1, 0, 0, 1, 1)", "counts(0, 10000) : I",
                "counts(0, MAX) : I").end();
    }

    private static void promise9Term() {
        story("9: it came on that day or earlier").calls("pass(5)", "find(0, 1, 0, 0, 1, 1)",
                "counts(0, 4) = false", "counts(0, 5) = true").end();
        story("9: not more than the term earlier, 30").calls("pass(5)", "find(0, 1, 0, 0, 1, 1)",
                "counts(0, 35) = true", "counts(0, 36) = false").end();
        story("9: not more than the term earlier, 1").calls("pass(5)", "find(0, 1, 0, 0, 1, 1)",
                "setTerm(0, 1)", "counts(0, 6) = true", "counts(0, 7) = false").end();
        story("9: not more than the term earlier, 999 to the last day").each(1, 9, "pass(1000)")
                .calls("find(0, 1, 0, 0, 1, 1)", "setTerm(0, 999)", "counts(0, 9999) = true",
                        "setTerm(0, 998)", "counts(0, 9999) = false", "counts(0, 9998) = true").end();
        story("9: as the term is now").calls("find(0, 1, 0, 0, 1, 1)", "counts(0, 30) = true",
                "setTerm(0, 29)", "counts(0, 30) = false", "setTerm(0, 31)",
                "counts(0, 31) = true", "counts(0, 32) = false").end();
        story("9: the term of its own source").calls("find(0, 1, 0, 0, 1, 1)",
                "find(1, 1, 0, 0, 1, 1)", "setTerm(0, 1)", "counts(0, 2) = false",
                "counts(1, 2) = true").end();
    }
}
