/** Promises 14 to 16 at their bounds: a story for each parameter below, at and above its range. */
public final class LinkBoundsTest {
    private static final Check CHECK = new Check("LinkBoundsTest");

    public static void main(String[] args) {
        promise14Finds();
        promise14BothTheSame();
        promise14Group();
        promise15Find();
        promise15Day();
        promise15NotCounting();
        promise15Least();
        promise16Find();
        promise16Other();
        promise16Day();
        promise16NotCounting();
        promise16TheSame();
        CHECK.end();
    }

    private static Story story(String sentence) {
        return new Story(CHECK, sentence);
    }

    private static Story withThree(String sentence) {
        return story(sentence).each(0, 2, "find(0, @, 0, 0, -1, -1) = #");
    }

    /** The thing 0 needs the thing 1, and that one the thing 2. */
    private static Story withChain(String sentence) {
        return withThree(sentence).calls("link(0, 1, 0) = 1", "link(1, 2, 3) = 2");
    }

    private static Story withChainOnTheLastDay(String sentence) {
        return story(sentence).each(1, 9, "pass(1000)").calls("pass(999) = 9999")
                .each(0, 2, "find(0, @, 0, 0, -1, -1) = #")
                .calls("link(0, 1, 0) = 1", "link(1, 2, 3) = 2");
    }

    private static void promise14Finds() {
        withThree("14: find -1").calls("link(-1, 1, 0) : B", "link(MIN, 1, 0) : B").end();
        withThree("14: find 0").calls("link(0, 1, 0) = 1", "failsWith(0, 1, 0) = true").end();
        withThree("14: find 2, the last").calls("link(2, 1, 0) = 1", "failsWith(2, 1, 0) = true").end();
        withThree("14: find 3, which has not come").calls("link(3, 1, 0) : B", "link(60, 1, 0) : B",
                "link(MAX, 1, 0) : B").end();
        withThree("14: other -1").calls("link(1, -1, 0) : B", "link(1, MIN, 0) : B").end();
        withThree("14: other 0").calls("link(1, 0, 0) = 1", "failsWith(1, 0, 0) = true").end();
        withThree("14: other 2, the last").calls("link(1, 2, 0) = 1", "failsWith(1, 2, 0) = true").end();
        withThree("14: other 3, which has not come").calls("link(1, 3, 0) : B", "link(1, 60, 0) : B",
                "link(1, MAX, 0) : B").end();
        story("14: no find has come").calls("link(0, 1, 0) : B", "link(0, 0, 0) : B").end();
    }

    private static void promise14BothTheSame() {
        withThree("14: both are the find 0").calls("link(0, 0, 0) : I", "link(0, 1, 0) = 1").end();
        withThree("14: both are the last find").calls("link(2, 2, 3) : I", "link(2, 1, 3) = 1").end();
        withThree("14: two finds of one thing are not the same find").calls("tell(0, 1, 1)",
                "link(0, 1, 0) = 1").end();
    }

    private static void promise14Group() {
        withThree("14: group -1").calls("link(0, 1, -1) : I", "link(0, 1, MIN) : I",
                "impact(1, 0) = 1").end();
        withThree("14: group 0").calls("link(0, 1, 0) = 1", "link(0, 2, 0) = 2",
                "impact(1, 0) = 1").end();
        withThree("14: group 3").calls("link(0, 1, 3) = 1", "link(0, 2, 3) = 2",
                "impact(1, 0) = 1").end();
        withThree("14: group 4").calls("link(0, 1, 4) : I", "link(0, 1, MAX) : I",
                "impact(1, 0) = 1").end();
        withThree("14: the groups 0 and 3 are not the same").calls("link(0, 1, 0) = 1",
                "link(0, 2, 3) = 2", "impact(1, 0) = 2", "impact(2, 0) = 2").end();
    }

    private static void promise15Find() {
        withChain("15: find -1").calls("impact(-1, 0) : B", "impact(MIN, 0) : B").end();
        withChain("15: find 0").calls("impact(0, 0) = 1").end();
        withChain("15: find 2, the last").calls("impact(2, 0) = 3").end();
        withChain("15: find 3, which has not come").calls("impact(3, 0) : B", "impact(60, 0) : B",
                "impact(MAX, 0) : B").end();
    }

    private static void promise15Day() {
        withChain("15: day -1").calls("impact(2, -1) : I", "impact(2, MIN) : I").end();
        withChain("15: day 0").calls("impact(2, 0) = 3").end();
        withChainOnTheLastDay("15: day 9999").calls("impact(2, 9999) = 3", "impact(2, 9998) : N").end();
        withChain("15: day 10000").calls("impact(2, 10000) : I", "impact(2, MAX) : I").end();
    }

    private static void promise15NotCounting() {
        story("15: the day before it came").calls("pass(1)", "find(0, 1, 0, 0, 1, 1)",
                "impact(0, 0) : N", "impact(0, 1) = 1").end();
        story("15: the day after its term").calls("find(0, 1, 0, 0, 1, 1)", "impact(0, 30) = 1",
                "impact(0, 31) : N").end();
        withChain("15: a struck find").calls("strike(2)", "impact(2, 0) : N", "impact(1, 0) = 2").end();
        withChain("15: a struck find between the two").calls("strike(1)", "impact(2, 0) = 1").end();
    }

    private static void promise15Least() {
        story("15: the only thing of all").calls("find(0, 1, 0, 0, 1, 1)", "impact(0, 0) = 1").end();
        withThree("15: no thing needs it").calls("impact(1, 0) = 1").end();
        withThree("15: every thing needs it").calls("link(0, 1, 0)", "link(2, 1, 0)",
                "impact(1, 0) = 3").end();
        story("15: a chain over sixty things needs more links than forty").each(0, 59,
                "find(0, @, 0, 0, -1, -1)").each(0, 39, "link(#, @, 0) = @")
                .calls("impact(40, 0) = 41", "impact(0, 0) = 1", "impact(59, 0) = 1").end();
        story("15: the same with the links told from the far end").each(0, 59,
                "find(0, @, 0, 0, -1, -1)").each(0, 39, "link(@, #, 0) = @")
                .calls("impact(0, 0) = 41", "impact(40, 0) = 1", "impact(59, 0) = 1").end();
    }

    private static void promise16Find() {
        withChain("16: find -1").calls("failsWith(-1, 1, 0) : B", "failsWith(MIN, 1, 0) : B").end();
        withChain("16: find 0").calls("failsWith(0, 1, 0) = true", "failsWith(0, 2, 0) = true").end();
        withChain("16: find 2, the last").calls("failsWith(2, 1, 0) = false").end();
        withChain("16: find 3, which has not come").calls("failsWith(3, 1, 0) : B",
                "failsWith(60, 1, 0) : B", "failsWith(MAX, 1, 0) : B").end();
    }

    private static void promise16Other() {
        withChain("16: other -1").calls("failsWith(1, -1, 0) : B", "failsWith(1, MIN, 0) : B").end();
        withChain("16: other 0").calls("failsWith(1, 0, 0) = false").end();
        withChain("16: other 2, the last").calls("failsWith(1, 2, 0) = true").end();
        withChain("16: other 3, which has not come").calls("failsWith(1, 3, 0) : B",
                "failsWith(1, 60, 0) : B", "failsWith(1, MAX, 0) : B").end();
    }

    private static void promise16Day() {
        withChain("16: day -1").calls("failsWith(0, 1, -1) : I", "failsWith(0, 1, MIN) : I").end();
        withChain("16: day 0").calls("failsWith(0, 1, 0) = true").end();
        withChainOnTheLastDay("16: day 9999").calls("failsWith(0, 2, 9999) = true",
                "failsWith(2, 0, 9999) = false", "failsWith(0, 2, 9998) : N").end();
        withChain("16: day 10000").calls("failsWith(0, 1, 10000) : I", "failsWith(0, 1, MAX) : I").end();
    }

    private static void promise16NotCounting() {
        withChain("16: the find does not count").calls("strike(0)", "failsWith(0, 2, 0) : N",
                "failsWith(1, 2, 0) = true").end();
        withChain("16: the other one does not count").calls("strike(2)", "failsWith(0, 2, 0) : N",
                "failsWith(0, 1, 0) = true").end();
        withChain("16: neither counts").calls("strike(0)", "strike(2)", "failsWith(0, 2, 0) : N").end();
        withChain("16: the same find, which does not count").calls("strike(0)",
                "failsWith(0, 0, 0) : N").end();
        withChain("16: the last day of the term and the one after").calls("failsWith(0, 2, 30) = true",
                "failsWith(0, 2, 31) : N").end();
        story("16: the day before the find came").calls("find(0, 1, 0, 0, 1, 1)", "pass(1)",
                "find(0, 2, 0, 0, 1, 1)", "link(1, 0, 0)", "failsWith(1, 0, 0) : N",
                "failsWith(0, 1, 0) : N", "failsWith(1, 0, 1) = true").end();
    }

    private static void promise16TheSame() {
        withThree("16: true for one and the same find").calls("failsWith(1, 1, 0) = true").end();
        withThree("16: true for two finds of the same thing").calls("failsWith(0, 1, 0) = false",
                "tell(0, 1, 1)", "failsWith(0, 1, 0) = true", "failsWith(1, 0, 0) = true").end();
    }
}
