/** The sentences under 'Terms' that name a boundary case, a story for each. */
public final class TermsTest {
    private static final Check CHECK = new Check("TermsTest");

    public static void main(String[] args) {
        sameSerial();
        sameNameAndAddress();
        toldTheSame();
        toldDifferent();
        chains();
        lowestFind();
        orderOfSources();
        latestByDay();
        highestNumber();
        needs();
        spareWays();
        linksWithin();
        failuresOfFailures();
        earlierDays();
        CHECK.end();
    }

    private static Story story(String sentence) {
        return new Story(CHECK, sentence);
    }

    /** Two finds with these marks are of one thing, or not, in whichever order they come. */
    private static void same(String sentence, boolean same, String one, String other) {
        String things = "things(0) = " + (same ? 1 : 2);
        String thing = "thingOf(1, 0) = " + (same ? 0 : 1);
        String first = "find(0, " + one + ", -1, -1)";
        String second = "find(3, " + other + ", -1, -1)";
        story(sentence).calls(first, second, things, thing, "thingOf(0, 0) = 0").end();
        story(sentence + ", turned round").calls(second, first, things, thing,
                "thingOf(0, 0) = 0").end();
    }

    private static void sameSerial() {
        same("the same serial 1, the least", true, "1, 2, 3", "1, 4, 5");
        same("the same serial 99, the greatest", true, "99, 2, 3", "99, 4, 5");
        same("serials one apart", false, "98, 2, 3", "99, 2, 3");
        same("no serial known is not the same serial", false, "0, 2, 3", "0, 4, 5");
        same("nothing known at all", false, "0, 0, 0", "0, 0, 0");
        same("the serial of one is the name and address of the other", false, "7, 0, 0", "0, 7, 7");
        same("both know unlike serials: name and address do not join", false, "1, 2, 3", "2, 2, 3");
    }

    private static void sameNameAndAddress() {
        same("neither knows a serial", true, "0, 2, 3", "0, 2, 3");
        same("one of them knows a serial", true, "1, 2, 3", "0, 2, 3");
        same("the least name and address", true, "0, 1, 1", "0, 1, 1");
        same("the greatest name and address", true, "0, 99, 99", "0, 99, 99");
        same("the same name, addresses one apart", false, "0, 2, 3", "0, 2, 4");
        same("the same address, names one apart", false, "0, 2, 3", "0, 1, 3");
        same("name and address changed about", false, "0, 2, 3", "0, 3, 2");
        same("the same name, no address known", false, "0, 2, 0", "0, 2, 0");
        same("the same address, no name known", false, "0, 0, 3", "0, 0, 3");
        same("the same name, one address not known", false, "0, 2, 3", "0, 2, 0");
        same("the same address, one name not known", false, "0, 2, 3", "0, 0, 3");
        same("one serial known, no name known", false, "1, 0, 3", "0, 0, 3");
        same("one serial known, no address known", false, "1, 2, 0", "0, 2, 0");
    }

    private static void toldTheSame() {
        story("told to be the same, with unlike serials").calls("find(0, 1, 0, 0, -1, -1)",
                "find(0, 2, 0, 0, -1, -1)", "things(0) = 2", "tell(0, 1, 1) = 0",
                "things(0) = 1").end();
        story("told to be the same, with nothing known").calls("find(0, 0, 0, 0, -1, -1)",
                "find(0, 0, 0, 0, -1, -1)", "tell(1, 0, 1) = 0", "things(0) = 1",
                "tell(0, 1, 0) = 1", "things(0) = 2").end();
        story("told to be the same as a find that does not count").calls("find(0, 1, 0, 0, -1, -1)",
                "find(0, 2, 0, 0, -1, -1)", "tell(0, 1, 1)", "strike(0)", "things(0) = 1",
                "thingOf(1, 0) = 1").end();
    }

    private static void toldDifferent() {
        story("told to be different, with the same serial").calls("find(0, 1, 0, 0, -1, -1)",
                "find(0, 1, 0, 0, -1, -1)", "things(0) = 1", "tell(0, 1, 2) = 0",
                "things(0) = 2").end();
        story("told to be different, with the same name and address").calls(
                "find(0, 0, 2, 3, -1, -1)", "find(0, 0, 2, 3, -1, -1)", "things(0) = 1",
                "tell(1, 0, 2) = 0", "things(0) = 2").end();
        story("told nothing any more, the marks join again").calls("find(0, 1, 0, 0, -1, -1)",
                "find(0, 1, 0, 0, -1, -1)", "tell(0, 1, 2)", "tell(0, 1, 0) = 2",
                "things(0) = 1").end();
        story("told to be different after the same: the last word counts").calls(
                "find(0, 1, 0, 0, -1, -1)", "find(0, 2, 0, 0, -1, -1)", "tell(0, 1, 1)",
                "tell(1, 0, 2) = 1", "things(0) = 2").end();
    }

    private static void chains() {
        story("a and b, b and c: so are a and c").calls("find(0, 1, 2, 3, -1, -1)",
                "find(0, 0, 2, 3, -1, -1)", "find(0, 4, 2, 3, -1, -1)", "things(0) = 1",
                "thingOf(2, 0) = 0").end();
        story("whatever was told of a and c").calls("find(0, 1, 2, 3, -1, -1)",
                "find(0, 0, 2, 3, -1, -1)", "find(0, 4, 2, 3, -1, -1)", "tell(0, 2, 2)",
                "things(0) = 1", "thingOf(2, 0) = 0").end();
        story("b counts no more: a and c are not").calls("find(0, 1, 2, 3, -1, -1)",
                "find(0, 0, 2, 3, -1, -1)", "find(0, 4, 2, 3, -1, -1)", "strike(1)",
                "things(0) = 2", "thingOf(2, 0) = 2").end();
        story("a and b told to be different, the chain ends there").calls("find(0, 1, 2, 3, -1, -1)",
                "find(0, 0, 2, 3, -1, -1)", "find(0, 4, 2, 3, -1, -1)", "tell(0, 1, 2)",
                "things(0) = 2", "thingOf(2, 0) = 1").end();
        story("a chain over all sixty finds, from the highest down").each(0, 59,
                "find(0, @, 0, 0, -1, -1)").each(0, 29, "tell(#, 59, 1)")
                .each(30, 58, "tell(@, #, 1)").calls("things(0) = 1", "thingOf(59, 0) = 0",
                        "thingOf(30, 0) = 0").end();
        story("a chain that goes up and down").each(0, 5, "find(0, @, 0, 0, -1, -1)").calls(
                "tell(0, 5, 1)", "tell(5, 1, 1)", "tell(1, 4, 1)", "tell(4, 2, 1)",
                "tell(2, 3, 1)", "things(0) = 1", "thingOf(3, 0) = 0", "thingOf(2, 0) = 0",
                "tell(0, 5, 2)", "things(0) = 2", "thingOf(3, 0) = 1").end();
    }

    private static void lowestFind() {
        story("the number of a thing: its lowest find").calls("find(0, 1, 0, 0, -1, -1)",
                "find(0, 2, 0, 0, -1, -1)", "find(0, 2, 0, 0, -1, -1)", "thingOf(2, 0) = 1",
                "thingOf(1, 0) = 1").end();
        story("its lowest find that counts: the lowest is struck").calls("find(0, 1, 0, 0, -1, -1)",
                "find(0, 1, 0, 0, -1, -1)", "find(0, 1, 0, 0, -1, -1)", "strike(0)",
                "thingOf(2, 0) = 1").end();
        story("its lowest find that counts: the lowest is too old").calls("setTerm(0, 1)",
                "find(0, 1, 0, 0, -1, -1)", "find(1, 1, 0, 0, -1, -1)", "find(2, 1, 0, 0, -1, -1)",
                "thingOf(2, 1) = 0", "thingOf(2, 2) = 1").end();
    }

    private static void orderOfSources() {
        story("the source that stands first, though older").calls("find(0, 1, 0, 0, 5, -1)", "pass(1)",
                "find(1, 1, 0, 0, 6, -1)", "value(1, 0, 1) = 5").end();
        story("the source that stands first, though of a lower number").calls(
                "find(0, 1, 0, 0, 5, -1)", "find(1, 1, 0, 0, 6, -1)", "value(0, 0, 0) = 5").end();
        story("the source that stands last is asked last").calls("find(3, 1, 0, 0, 5, -1)",
                "find(2, 1, 0, 0, 6, -1)", "value(0, 0, 0) = 6", "strike(1)",
                "value(0, 0, 0) = 5").end();
        story("the order is 0, 1, 2, 3 at first").calls("find(3, 1, 0, 0, 53, -1)",
                "find(2, 1, 0, 0, 52, -1)", "find(1, 1, 0, 0, 51, -1)", "find(0, 1, 0, 0, 50, -1)",
                "value(0, 0, 0) = 50", "strike(3)", "value(0, 0, 0) = 51", "strike(2)",
                "value(0, 0, 0) = 52", "strike(1)", "value(0, 0, 0) = 53").end();
        story("a source that does not tell it is passed over").calls("find(0, 1, 0, 0, -1, 5)",
                "find(3, 1, 0, 0, 6, -1)", "value(0, 0, 0) = 6", "value(1, 1, 0) = 5").end();
    }

    private static void latestByDay() {
        story("of several the latest by day").calls("find(1, 1, 0, 0, 5, 5)", "pass(1)",
                "find(1, 1, 0, 0, 6, -1)", "value(0, 0, 1) = 6", "value(0, 1, 1) = 5").end();
        story("the latest that counts on that day").calls("find(1, 1, 0, 0, 5, 5)", "pass(1)",
                "find(1, 1, 0, 0, 6, -1)", "value(0, 0, 0) = 5", "value(1, 0, 31) = 6").end();
        story("the latest is struck").calls("find(1, 1, 0, 0, 5, 5)", "pass(1)",
                "find(1, 1, 0, 0, 6, -1)", "strike(1)", "value(0, 0, 1) = 5").end();
    }

    private static void highestNumber() {
        story("of several the one with the highest number").calls("find(1, 1, 0, 0, 6, 5)",
                "find(1, 1, 0, 0, 5, 6)", "find(1, 1, 0, 0, 4, -1)", "value(0, 0, 0) = 4",
                "value(0, 1, 0) = 6").end();
        story("the find 59 goes before the find 0").each(0, 59, "find(2, 1, 0, 0, #, -1) = #")
                .calls("value(0, 0, 0) = 59", "strike(59)", "value(0, 0, 0) = 58").end();
    }

    private static Story withFour(String sentence) {
        return story(sentence).each(0, 3, "find(0, @, 0, 0, -1, -1) = #");
    }

    private static void needs() {
        withFour("a link has one way").calls("link(0, 1, 0)", "failsWith(0, 1, 0) = true",
                "failsWith(1, 0, 0) = false").end();
        withFour("links count for the things of both").calls("link(0, 1, 0)", "tell(0, 2, 1)",
                "tell(1, 3, 1)", "failsWith(2, 3, 0) = true", "impact(3, 0) = 2").end();
        withFour("links count if both count").calls("link(0, 1, 0)", "tell(0, 2, 1)",
                "tell(1, 3, 1)", "strike(1)", "failsWith(2, 3, 0) = false").end();
        withFour("links count if the needing find counts").calls("link(0, 1, 0)", "tell(0, 2, 1)",
                "tell(1, 3, 1)", "strike(0)", "failsWith(2, 3, 0) = false").end();
    }

    private static void spareWays() {
        withFour("of two spare ways one has failed").calls("link(0, 1, 2)", "link(0, 2, 2)",
                "failsWith(0, 1, 0) = false", "failsWith(0, 2, 0) = false").end();
        withFour("all spare ways have failed").calls("link(0, 1, 2)", "link(0, 2, 2)",
                "link(1, 3, 0)", "link(2, 3, 0)", "failsWith(0, 3, 0) = true").end();
        withFour("all but one of three").calls("link(0, 1, 2)", "link(0, 2, 2)", "link(0, 3, 2)",
                "link(1, 3, 0)", "failsWith(0, 3, 0) = false", "link(2, 3, 0)",
                "failsWith(0, 3, 0) = true").end();
        withFour("one of its groups is enough").calls("link(0, 1, 0)", "link(0, 2, 1)",
                "link(0, 3, 1)", "failsWith(0, 1, 0) = true", "failsWith(0, 2, 0) = false").end();
        withFour("the same group of another thing is no spare way").calls("link(0, 1, 2)",
                "link(2, 3, 2)", "failsWith(0, 1, 0) = true", "failsWith(2, 1, 0) = false").end();
        withFour("a spare way that does not count is none").calls("link(0, 1, 2)", "link(0, 2, 2)",
                "failsWith(0, 1, 0) = false", "strike(2)", "failsWith(0, 1, 0) = true").end();
        withFour("two links to one thing are not two ways").calls("link(0, 1, 2)", "link(0, 2, 2)",
                "tell(1, 2, 1)", "failsWith(0, 2, 0) = true").end();
        withFour("no link of a group makes nothing fail").calls("failsWith(0, 1, 0) = false",
                "impact(1, 0) = 1").end();
    }

    private static void linksWithin() {
        withFour("a link within a thing is no spare way").calls("link(0, 1, 0)", "link(0, 2, 0)",
                "tell(0, 1, 1)", "failsWith(0, 2, 0) = true").end();
        withFour("a link within a thing makes nothing fail").calls("link(0, 1, 0)", "tell(0, 1, 1)",
                "impact(2, 0) = 1", "impact(0, 0) = 1", "failsWith(0, 2, 0) = false").end();
        withFour("a link counts again when the thing is parted").calls("link(0, 1, 0)",
                "tell(0, 1, 1)", "failsWith(2, 1, 0) = false", "tell(0, 1, 0)",
                "failsWith(0, 1, 0) = true", "impact(1, 0) = 2").end();
    }

    private static void failuresOfFailures() {
        withFour("two things that need each other").calls("link(0, 1, 0)", "link(1, 0, 0)",
                "impact(0, 0) = 2", "impact(1, 0) = 2", "impact(2, 0) = 1").end();
        withFour("a ring of all").calls("link(0, 1, 0)", "link(1, 2, 0)", "link(2, 3, 0)",
                "link(3, 0, 0)", "impact(0, 0) = 4", "impact(3, 0) = 4").end();
        withFour("a ring with a spare way out of it").calls("link(0, 1, 0)", "link(1, 2, 0)",
                "link(2, 0, 0)", "link(1, 3, 0)", "impact(2, 0) = 1", "impact(0, 0) = 2",
                "impact(1, 0) = 3").end();
        withFour("the thing that fails first has spare ways").calls("link(0, 1, 0)",
                "link(0, 2, 0)", "link(3, 0, 0)", "impact(0, 0) = 2").end();
    }

    private static void earlierDays() {
        story("the first day after many").calls("find(0, 1, 0, 0, 5, 5)", "pass(1000)",
                "find(0, 1, 0, 0, 6, 6)", "value(0, 0, 0) = 5", "things(0) = 1",
                "value(1, 0, 1000) = 6", "counts(0, 1000) = false", "counts(1, 999) = false").end();
        story("a day after the present one").calls("find(0, 1, 0, 0, 5, 5)", "counts(0, 30) = true",
                "counts(0, 31) = false", "things(30) = 1", "things(31) = 0", "today() = 0").end();
        story("links and tells have no day").calls("find(0, 1, 0, 0, 5, 5)",
                "find(0, 2, 0, 0, 6, 6)", "find(0, 3, 0, 0, 6, 6)", "pass(9)", "tell(0, 1, 1)",
                "link(2, 1, 0)", "things(0) = 2", "failsWith(2, 0, 0) = true").end();
    }
}
