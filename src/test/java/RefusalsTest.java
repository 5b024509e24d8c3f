/**
 * Calls for which several exceptions apply: the one that is documented first is due, for each pair of
 * them, and nothing changes (which every story looks at).
 */
public final class RefusalsTest {
    private static final Check CHECK = new Check("RefusalsTest");

    public static void main(String[] args) {
        argumentBeforeState();
        indexBeforeArgument();
        indexBeforeArgumentInThings();
        indexBeforeArgumentInLinks();
        indexBeforeNoSuchElement();
        argumentBeforeNoSuchElement();
        linkOfThree();
        refusedOften();
        CHECK.end();
    }

    private static Story story(String sentence) {
        return new Story(CHECK, sentence);
    }

    /** The find 0 is struck, the find 1 counts on the days 5 to 35, and one wish is told. */
    private static Story withStruck(String sentence) {
        return story(sentence).calls("pass(5)", "find(0, 1, 0, 0, 5, 5)", "find(0, 2, 0, 0, 6, 6)",
                "strike(0)", "wish(0, 2, 0, 7)", "setTerm(2, 8)", "putFirst(3)", "tell(0, 1, 2)",
                "link(0, 1, 2)");
    }

    private static void argumentBeforeState() {
        story("pass: out of range before too late").each(1, 9, "pass(1000)").calls("pass(999)",
                "pass(1001) : I", "pass(0) : I", "pass(1) : S").end();
        story("find: out of range before 60 have come").each(0, 59, "find(0, @, 0, 0, #, -1)")
                .calls("find(4, 1, 1, 1, 1, 1) : I", "find(1, 1, 1, 1, 1, 100) : I",
                        "find(1, 1, 1, 1, 1, 1) : S").end();
        story("wish: out of range before 20 are told").each(0, 19, "wish(0, @, 0, #)")
                .calls("wish(3, 1, 0, 0) : I", "wish(0, 1, 0, 100) : I", "wish(0, 1, 0, 0) : S").end();
    }

    private static void indexBeforeArgument() {
        withStruck("tell: no such find before both the same").calls("tell(2, 2, 1) : B",
                "tell(-1, -1, 1) : B").end();
        withStruck("tell: no such find before told out of range").calls("tell(2, 1, 3) : B",
                "tell(1, 2, 3) : B", "tell(-1, 1, -1) : B", "tell(1, -1, -1) : B").end();
        withStruck("tell: no such find before both others").calls("tell(2, 2, 3) : B").end();
        withStruck("tell: both the same and told out of range").calls("tell(1, 1, 3) : I",
                "tell(1, 1, -1) : I").end();
        withStruck("counts: no such find before day out of range").calls("counts(2, -1) : B",
                "counts(2, 10000) : B", "counts(-1, -1) : B", "counts(-1, 10000) : B").end();
        withStruck("differing: no such wish before day out of range").calls("differing(1, -1) : B",
                "differing(1, 10000) : B", "differing(-1, -1) : B", "differing(-1, 10000) : B").end();
    }

    private static void indexBeforeArgumentInThings() {
        withStruck("thingOf: no such find before day out of range").calls("thingOf(2, -1) : B",
                "thingOf(2, 10000) : B", "thingOf(-1, -1) : B", "thingOf(-1, 10000) : B").end();
        withStruck("value: no such find before day out of range").calls("value(2, 0, -1) : B",
                "value(2, 0, 10000) : B", "value(-1, 1, -1) : B").end();
        withStruck("value: no such find before attribute out of range").calls("value(2, 2, 5) : B",
                "value(2, -1, 5) : B", "value(-1, 2, 5) : B").end();
        withStruck("value: no such find before both others").calls("value(2, 2, 10000) : B").end();
        withStruck("value: attribute and day out of range").calls("value(1, 2, 10000) : I",
                "value(1, -1, -1) : I").end();
    }

    private static void indexBeforeArgumentInLinks() {
        withStruck("impact: no such find before day out of range").calls("impact(2, -1) : B",
                "impact(2, 10000) : B", "impact(-1, -1) : B", "impact(-1, 10000) : B").end();
        withStruck("failsWith: no such find before day out of range").calls("failsWith(2, 1, -1) : B",
                "failsWith(2, 1, 10000) : B", "failsWith(-1, 1, -1) : B").end();
        withStruck("failsWith: no such other find before day out of range").calls(
                "failsWith(1, 2, -1) : B", "failsWith(1, 2, 10000) : B",
                "failsWith(1, -1, 10000) : B").end();
    }

    private static void indexBeforeNoSuchElement() {
        withStruck("failsWith: no such other find before a find that does not count").calls(
                "failsWith(0, 2, 5) : B", "failsWith(0, -1, 5) : B").end();
        withStruck("failsWith: no such find before another one that does not count").calls(
                "failsWith(2, 0, 5) : B", "failsWith(-1, 0, 5) : B").end();
        withStruck("failsWith: no such find before all others").calls("failsWith(0, 2, -1) : B",
                "failsWith(2, 0, 10000) : B").end();
    }

    private static void argumentBeforeNoSuchElement() {
        withStruck("thingOf: day out of range before a find that does not count").calls(
                "thingOf(0, -1) : I", "thingOf(0, 10000) : I", "thingOf(0, 5) : N").end();
        withStruck("value: day out of range before a find that does not count").calls(
                "value(0, 0, -1) : I", "value(0, 0, 10000) : I", "value(0, 0, 5) : N").end();
        withStruck("value: attribute out of range before a find that does not count").calls(
                "value(0, 2, 5) : I", "value(0, -1, 5) : I", "value(1, 2, 4) : I").end();
        withStruck("impact: day out of range before a find that does not count").calls(
                "impact(0, -1) : I", "impact(0, 10000) : I", "impact(0, 5) : N").end();
        withStruck("failsWith: day out of range before a find that does not count").calls(
                "failsWith(0, 1, -1) : I", "failsWith(0, 1, 10000) : I",
                "failsWith(0, 1, 5) : N").end();
        withStruck("failsWith: day out of range before another one that does not count").calls(
                "failsWith(1, 0, -1) : I", "failsWith(1, 0, 10000) : I",
                "failsWith(1, 0, 5) : N").end();
    }

    private static Story withFortyLinks(String sentence) {
        return story(sentence).calls("find(0, 1, 0, 0, 5, 5)", "find(0, 2, 0, 0, 6, 6)")
                .each(0, 39, "link(0, 1, 0) = @");
    }

    private static void linkOfThree() {
        withStruck("link: no such find before both the same").calls("link(2, 2, 0) : B",
                "link(-1, -1, 0) : B").end();
        withStruck("link: no such find before group out of range").calls("link(2, 1, 4) : B",
                "link(1, 2, -1) : B").end();
        withStruck("link: both the same and group out of range").calls("link(1, 1, 4) : I",
                "link(1, 1, -1) : I").end();
        withFortyLinks("link: no such find before 40 are told").calls("link(2, 1, 0) : B",
                "link(1, 2, 0) : B", "link(-1, 1, 0) : B", "link(1, -1, 0) : B").end();
        withFortyLinks("link: both the same before 40 are told").calls("link(1, 1, 0) : I").end();
        withFortyLinks("link: group out of range before 40 are told").calls("link(0, 1, 4) : I",
                "link(0, 1, -1) : I").end();
        withFortyLinks("link: no such find before all others").calls("link(2, 2, 4) : B").end();
        withFortyLinks("link: 40 are told, and nothing else is wrong").calls("link(0, 1, 0) : S").end();
    }

    /** A refused call is refused again, and what stood before it goes on. */
    private static void refusedOften() {
        withStruck("refused calls of each method, one after the other").calls("pass(0) : I",
                "setTerm(2, 0) : I", "setTerm(4, 8) : I", "putFirst(4) : I",
                "find(0, 1, 0, 0, 5, 100) : I", "strike(2) : B", "tell(0, 1, 3) : I",
                "tell(0, 2, 1) : B", "counts(1, -1) : I", "things(-1) : I", "thingOf(0, 5) : N",
                "value(0, 0, 5) : N", "disputed(2, 5) : I", "link(0, 1, 4) : I", "link(0, 0, 2) : I",
                "impact(0, 5) : N", "failsWith(1, 0, 5) : N", "wish(0, 2, 0, 100) : I",
                "differing(1, 5) : B", "changed(0, 5, -1) : I", "today() = 5", "setTerm(2, 9) = 8",
                "putFirst(3) = 0", "tell(1, 0, 0) = 2", "link(0, 1, 2) = 2", "wish(0, 1, 0, 0) = 1",
                "find(0, 1, 0, 0, 5, 5) = 2", "strike(0) = false").end();
    }
}
