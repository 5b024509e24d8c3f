/** The register empty, at one before full, and full: finds, links, wishes and calls. */
public final class FillingTest {
    private static final Check CHECK = new Check("FillingTest");

    public static void main(String[] args) {
        findsEmpty();
        findsFull();
        findsThatFill();
        linksEmpty();
        linksFull();
        linksThatFill();
        wishesEmpty();
        wishesFull();
        wishesThatFill();
        callsFull();
        CHECK.end();
    }

    private static Story story(String sentence) {
        return new Story(CHECK, sentence);
    }

    private static Story withFinds(String sentence, int number) {
        return story(sentence).each(0, number - 1, "find(0, @, 0, 0, #, -1) = #");
    }

    private static void findsEmpty() {
        story("no find: none to strike, to tell of, to ask for").calls("strike(0) : B",
                "tell(0, 1, 1) : B", "counts(0, 0) : B", "thingOf(0, 0) : B", "value(0, 0, 0) : B",
                "link(0, 1, 0) : B", "impact(0, 0) : B", "failsWith(0, 0, 0) : B").end();
        story("no find: nothing to count").calls("things(0) = 0", "disputed(0, 0) = 0",
                "disputed(1, 0) = 0", "wish(0, 1, 0, 0)", "differing(0, 0) = 0",
                "changed(0, 0, 0) = 0", "changed(1, 0, 9999) = 0").end();
        story("no find: the first one is 0").calls("find(3, 0, 0, 0, -1, -1) = 0").end();
        withFinds("one find: no other one", 1).calls("things(0) = 1", "counts(0, 0) = true",
                "counts(1, 0) : B", "tell(0, 1, 1) : B", "tell(1, 0, 1) : B", "link(0, 1, 0) : B",
                "link(1, 0, 0) : B", "failsWith(0, 1, 0) : B", "failsWith(1, 0, 0) : B").end();
    }

    private static void findsFull() {
        withFinds("at 59 finds there is no find 59", 59).calls("counts(58, 0) = true",
                "counts(59, 0) : B", "strike(59) : B", "thingOf(59, 0) : B", "value(59, 0, 0) : B",
                "impact(59, 0) : B", "failsWith(59, 0, 0) : B", "failsWith(0, 59, 0) : B",
                "tell(59, 0, 1) : B", "tell(0, 59, 1) : B", "link(59, 0, 0) : B",
                "link(0, 59, 0) : B").end();
        withFinds("at 59 finds one more comes", 59).calls("things(0) = 59",
                "find(3, 60, 0, 0, 59, 99) = 59", "things(0) = 60", "value(59, 1, 0) = 99").end();
        withFinds("at 60 finds none comes", 60).calls("find(0, 61, 0, 0, 1, 1) : S",
                "find(3, 99, 99, 99, 99, 99) : S", "find(0, 0, 0, 0, -1, -1) : S",
                "things(0) = 60").end();
        withFinds("at 60 finds there is no find 60", 60).calls("counts(60, 0) : B",
                "strike(60) : B", "thingOf(60, 0) : B", "value(60, 0, 0) : B", "impact(60, 0) : B",
                "failsWith(60, 0, 0) : B", "failsWith(0, 60, 0) : B", "tell(60, 0, 1) : B",
                "tell(0, 60, 1) : B", "link(60, 0, 0) : B", "link(0, 60, 0) : B").end();
        withFinds("at 60 finds the find 59 is one as any", 60).calls("counts(59, 0) = true",
                "thingOf(59, 0) = 59", "value(59, 0, 0) = 59", "tell(59, 58, 1) = 0",
                "thingOf(59, 0) = 58", "disputed(0, 0) = 1", "link(59, 57, 0) = 1",
                "failsWith(58, 57, 0) = true", "impact(57, 0) = 2", "strike(59) = true",
                "impact(57, 0) = 1", "things(0) = 59").end();
        withFinds("at 60 finds out of range is documented first", 60).calls(
                "find(-1, 1, 1, 1, 1, 1) : I", "find(4, 1, 1, 1, 1, 1) : I",
                "find(1, -1, 1, 1, 1, 1) : I", "find(1, 100, 1, 1, 1, 1) : I",
                "find(1, 1, -1, 1, 1, 1) : I", "find(1, 1, 100, 1, 1, 1) : I",
                "find(1, 1, 1, -1, 1, 1) : I", "find(1, 1, 1, 100, 1, 1) : I",
                "find(1, 1, 1, 1, -2, 1) : I", "find(1, 1, 1, 1, 100, 1) : I",
                "find(1, 1, 1, 1, 1, -2) : I", "find(1, 1, 1, 1, 1, 100) : I").end();
    }

    private static void findsThatFill() {
        withFinds("60 have come, though one is struck", 60).calls("strike(0)",
                "find(0, 1, 0, 0, 1, 1) : S").end();
        withFinds("60 have come, though none counts any more", 60).calls("pass(31)",
                "things(31) = 0", "find(0, 1, 0, 0, 1, 1) : S").end();
        withFinds("a refused find does not come", 59).calls("find(4, 1, 0, 0, 1, 1) : I",
                "find(0, 1, 0, 0, 1, 100) : I", "find(0, 1, 0, 0, 1, 1) = 59",
                "find(0, 1, 0, 0, 1, 1) : S").end();
    }

    private static void linksEmpty() {
        withFinds("no link: nothing else fails", 3).calls("impact(0, 0) = 1", "impact(2, 0) = 1",
                "failsWith(0, 2, 0) = false", "failsWith(2, 0, 0) = false").end();
        withFinds("no link: the first one makes one", 3).calls("link(0, 2, 0) = 1",
                "impact(2, 0) = 2").end();
    }

    private static Story withLinks(String sentence, int number) {
        return withFinds(sentence, 42).each(0, number - 1, "link(@, #, 0) = @");
    }

    private static void linksFull() {
        withLinks("at 39 links one more is told", 39).calls("impact(0, 0) = 40",
                "link(40, 39, 3) = 40", "impact(0, 0) = 41").end();
        withLinks("at 40 links none is told", 40).calls("link(41, 40, 0) : S", "link(0, 1, 3) : S",
                "impact(0, 0) = 41").end();
        withLinks("at 40 links no such find is documented first", 40).calls("link(-1, 0, 0) : B",
                "link(42, 0, 0) : B", "link(0, -1, 0) : B", "link(0, 42, 0) : B",
                "link(42, 42, 4) : B").end();
        withLinks("at 40 links both the same is documented before full", 40).calls(
                "link(0, 0, 0) : I", "link(41, 41, 0) : I").end();
        withLinks("at 40 links group out of range is documented before full", 40).calls(
                "link(0, 1, -1) : I", "link(0, 1, 4) : I").end();
    }

    private static void linksThatFill() {
        withFinds("40 are told, though all are the same", 2).each(0, 39, "link(0, 1, 2) = @")
                .calls("link(0, 1, 2) : S", "impact(1, 0) = 2").end();
        withFinds("40 are told, though all are within one thing", 2).calls("tell(0, 1, 1)")
                .each(0, 39, "link(0, 1, 2) = @").calls("link(0, 1, 2) : S", "impact(1, 0) = 1").end();
        withFinds("40 are told, though one find is struck", 2).calls("strike(1)")
                .each(0, 39, "link(0, 1, 2) = @").calls("link(0, 1, 2) : S", "impact(0, 0) = 1").end();
        withLinks("a refused link is not told", 39).calls("link(0, 0, 0) : I", "link(0, 1, 4) : I",
                "link(0, 42, 0) : B", "link(40, 39, 0) = 40", "link(40, 39, 0) : S").end();
    }

    private static void wishesEmpty() {
        story("no wish: none to ask for").calls("differing(0, 0) : B", "differing(-1, 0) : B").end();
        story("no wish: the first one is 0").calls("wish(0, 1, 0, 0) = 0", "differing(0, 0) = 0",
                "differing(1, 0) : B").end();
    }

    private static Story withWishes(String sentence, int number) {
        return story(sentence).calls("find(0, 20, 0, 0, 18, -1)", "find(0, 19, 0, 0, 18, -1)")
                .each(0, number - 1, "wish(0, @, 0, #) = #");
    }

    private static void wishesFull() {
        withWishes("at 19 wishes there is no wish 19", 19).calls("differing(18, 0) = 0",
                "differing(19, 0) : B").end();
        withWishes("at 19 wishes one more is told", 19).calls("wish(0, 20, 0, 19) = 19",
                "differing(19, 0) = 1").end();
        withWishes("at 20 wishes none is told", 20).calls("wish(0, 21, 0, 20) : S",
                "wish(2, 99, 1, 99) : S", "differing(19, 0) = 1", "differing(18, 0) = 0").end();
        withWishes("at 20 wishes there is no wish 20", 20).calls("differing(20, 0) : B",
                "differing(21, 0) : B").end();
        withWishes("at 20 wishes out of range is documented first", 20).calls("wish(-1, 1, 0, 0) : I",
                "wish(3, 1, 0, 0) : I", "wish(0, 0, 0, 0) : I", "wish(0, 100, 0, 0) : I",
                "wish(0, 1, -1, 0) : I", "wish(0, 1, 2, 0) : I", "wish(0, 1, 0, -1) : I",
                "wish(0, 1, 0, 100) : I").end();
    }

    private static void wishesThatFill() {
        story("20 are told, though all are the same").each(0, 19, "wish(0, 1, 0, 0) = #")
                .calls("wish(0, 1, 0, 0) : S").end();
        withWishes("a refused wish is not told", 19).calls("wish(3, 1, 0, 0) : I",
                "wish(0, 1, 0, 100) : I", "wish(0, 20, 0, 19) = 19", "wish(0, 20, 0, 19) : S").end();
    }

    private static void callsFull() {
        story("the call 512 of an object that is full of everything")
                .each(0, 59, "find(0, @, 0, 0, #, -1) = #").each(0, 39, "link(@, #, 0) = @")
                .each(0, 19, "wish(0, @, 0, 99) = #").each(0, 58, "tell(#, @, 1) = 0")
                .each(0, 58, "tell(#, @, 0) = 1").each(0, 59, "impact(59, 0) = 1")
                .each(0, 59, "failsWith(59, 0, 0) = false").each(0, 59, "thingOf(#, 0) = #")
                .each(0, 59, "value(#, 0, 0) = #").each(0, 19, "differing(#, 0) = 1")
                .calls("things(0) = 60", "disputed(0, 0) = 0", "changed(0, 0, 30) = 0")
                .calls("pass(1)", "tell(0, 40, 1)", "tell(40, 59, 1)").each(0, 6, "today() = 1")
                .calls("impact(59, 0) = 40").end();
    }
}
