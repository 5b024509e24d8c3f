/** Promises 14 to 16: link, impact, failsWith. */
public final class LinksTest {
    private static final Check CHECK = new Check("LinksTest");
    private static final int MIN = Integer.MIN_VALUE;
    private static final int MAX = Integer.MAX_VALUE;

    public static void main(String[] args) {
        promise14Link();
        promise14FortyLinks();
        promise14WrongInputs();
        promise15SpareWays();
        promise15Groups();
        promise15FarAndInRings();
        promise15LongChain();
        promise15LinksWithinAThing();
        promise15LinksOfAllFindsOfAThing();
        promise15OnlyFindsThatCount();
        promise15WrongInputs();
        promise16FailsWith();
        promise16WrongInputs();
        CHECK.end();
    }

    private static FoundRegister withThings(int number) {
        FoundRegister x = new FoundRegister();
        for (int find = 0; find < number; find++) {
            x.find(0, find + 1, 0, 0, -1, -1);
        }
        return x;
    }

    private static void promise14Link() {
        FoundRegister x = withThings(3);
        CHECK.due("link(0, 1, 0)", 1, x.link(0, 1, 0));
        CHECK.due("link(0, 1, 0) once more", 2, x.link(0, 1, 0));
        CHECK.due("link(1, 0, 3)", 3, x.link(1, 0, 3));
        x.strike(2);
        CHECK.due("link(2, 0, 1) of a struck find", 4, x.link(2, 0, 1));
        x.tell(0, 1, 1);
        CHECK.due("link(0, 1, 2) within a thing", 5, x.link(0, 1, 2));
        CHECK.due("things(0)", 1, x.things(0));
    }

    private static void promise14FortyLinks() {
        FoundRegister x = withThings(42);
        for (int number = 1; number <= 40; number++) {
            CHECK.due("link", number, x.link(number, number - 1, number % 4));
        }
        CHECK.badState("the link 41", () -> x.link(41, 40, 0));
        CHECK.badState("the link 41", () -> x.link(0, 1, 0));
        CHECK.badArgument("the link 41 of one find", () -> x.link(1, 1, 0));
        CHECK.badArgument("the link 41 out of range", () -> x.link(0, 1, 4));
        CHECK.badIndex("the link 41 of no find", () -> x.link(0, 42, 0));
        CHECK.due("impact(0, 0)", 41, x.impact(0, 0));
        CHECK.due("impact(39, 0), the last link counts", 2, x.impact(39, 0));
        CHECK.due("impact(40, 0), the refused one does not", 1, x.impact(40, 0));
    }

    private static void promise14WrongInputs() {
        FoundRegister x = withThings(2);
        for (int find : new int[] {MIN, -1, 2, 60, MAX}) {
            CHECK.badIndex("link(" + find + ", 1, 0)", () -> x.link(find, 1, 0));
            CHECK.badIndex("link(1, " + find + ", 0)", () -> x.link(1, find, 0));
            CHECK.badIndex("link of no find twice", () -> x.link(find, find, 4));
            CHECK.badIndex("link out of range too", () -> x.link(0, find, 4));
        }
        CHECK.badArgument("link(0, 0, 0)", () -> x.link(0, 0, 0));
        CHECK.badArgument("link(1, 1, 3)", () -> x.link(1, 1, 3));
        for (int group : new int[] {MIN, -1, 4, MAX}) {
            CHECK.badArgument("link(0, 1, " + group + ")", () -> x.link(0, 1, group));
        }
        CHECK.due("the first one after refusals", 1, x.link(0, 1, 0));
    }

    private static void promise15SpareWays() {
        FoundRegister x = withThings(5);
        CHECK.due("impact(1, 0) without links", 1, x.impact(1, 0));
        x.link(0, 1, 2);
        CHECK.due("impact(1, 0), one way", 2, x.impact(1, 0));
        CHECK.due("impact(0, 0), the other way round", 1, x.impact(0, 0));
        x.link(0, 2, 2);
        CHECK.due("impact(1, 0), a spare way", 1, x.impact(1, 0));
        x.link(0, 1, 2);
        CHECK.due("impact(1, 0), the same way twice", 1, x.impact(1, 0));
        x.link(1, 3, 0);
        x.link(2, 3, 1);
        CHECK.due("impact(3, 0), all spare ways fail", 4, x.impact(3, 0));
        x.link(0, 4, 2);
        CHECK.due("impact(3, 0), a third way", 3, x.impact(3, 0));
    }

    private static void promise15Groups() {
        FoundRegister x = withThings(5);
        for (int group = 0; group < 4; group++) {
            x.link(0, group + 1, group);
        }
        for (int find = 1; find < 5; find++) {
            CHECK.due("each group for itself", 2, x.impact(find, 0));
        }
        FoundRegister y = withThings(3);
        y.link(0, 1, 0);
        y.link(2, 1, 1);
        y.link(2, 0, 1);
        CHECK.due("groups of unlike things are not one", 3, y.impact(1, 0));
        CHECK.due("impact(0, 0)", 1, y.impact(0, 0));
    }

    private static void promise15FarAndInRings() {
        FoundRegister x = withThings(4);
        x.link(3, 2, 0);
        x.link(2, 1, 0);
        x.link(1, 0, 0);
        CHECK.due("impact(0, 0), from far", 4, x.impact(0, 0));
        CHECK.due("impact(2, 0)", 2, x.impact(2, 0));
        x.link(0, 3, 0);
        for (int find = 0; find < 4; find++) {
            CHECK.due("impact in a ring", 4, x.impact(find, 0));
        }
        FoundRegister y = withThings(3);
        y.link(0, 1, 0);
        y.link(1, 0, 0);
        CHECK.due("a ring does not fail by itself", 1, y.impact(2, 0));
    }

    private static void promise15LongChain() {
        FoundRegister x = withThings(60);
        for (int find = 19; find < 59; find++) {
            x.link(find, find + 1, 3);
        }
        CHECK.due("impact(59, 0)", 41, x.impact(59, 0));
        CHECK.due("impact(18, 0)", 1, x.impact(18, 0));
        CHECK.due("failsWith(19, 59, 0)", true, x.failsWith(19, 59, 0));
        CHECK.due("failsWith(59, 19, 0)", false, x.failsWith(59, 19, 0));
    }

    private static void promise15LinksWithinAThing() {
        FoundRegister x = withThings(3);
        x.link(0, 1, 0);
        x.link(0, 2, 0);
        x.tell(0, 1, 1);
        CHECK.due("impact(2, 0), the link within is no spare way", 2, x.impact(2, 0));
        x.tell(0, 1, 0);
        CHECK.due("impact(2, 0), it is one again", 1, x.impact(2, 0));
        FoundRegister y = withThings(3);
        y.link(0, 1, 1);
        y.tell(0, 1, 1);
        CHECK.due("a group without a link that counts", 1, y.impact(2, 0));
        CHECK.due("impact(1, 0), the thing once", 1, y.impact(1, 0));
    }

    private static void promise15LinksOfAllFindsOfAThing() {
        FoundRegister x = withThings(6);
        x.link(0, 2, 0);
        x.link(1, 3, 0);
        CHECK.due("impact(2, 0)", 2, x.impact(2, 0));
        x.tell(0, 1, 1);
        CHECK.due("impact(2, 0), ways of one thing by two finds", 1, x.impact(2, 0));
        x.tell(2, 3, 1);
        CHECK.due("impact(3, 0), both ways lead to one thing", 2, x.impact(3, 0));
        x.link(4, 1, 1);
        CHECK.due("impact(3, 0), needed by any find", 3, x.impact(3, 0));
    }

    private static void promise15OnlyFindsThatCount() {
        FoundRegister x = withThings(4);
        x.link(0, 1, 0);
        x.link(0, 2, 0);
        x.link(3, 0, 0);
        CHECK.due("impact(1, 0)", 1, x.impact(1, 0));
        x.strike(2);
        CHECK.due("impact(1, 0), the spare way is struck", 3, x.impact(1, 0));
        x.pass(5);
        x.find(1, 0, 7, 7, -1, -1);
        x.link(0, 4, 0);
        CHECK.due("impact(1, 4), as of an earlier day", 3, x.impact(1, 4));
        CHECK.due("impact(1, 5), with a new spare way", 1, x.impact(1, 5));
        x.setTerm(1, 3);
        CHECK.due("impact(1, 8)", 1, x.impact(1, 8));
        CHECK.due("impact(1, 9), its term is over", 3, x.impact(1, 9));
        x.strike(0);
        CHECK.due("impact(1, 9), the needing one is struck", 1, x.impact(1, 9));
    }

    private static void promise15WrongInputs() {
        FoundRegister x = withThings(1);
        for (int find : new int[] {MIN, -1, 1, 60, MAX}) {
            CHECK.badIndex("impact(" + find + ", 0)", () -> x.impact(find, 0));
            CHECK.badIndex("impact(" + find + ", -1)", () -> x.impact(find, -1));
        }
        for (int day : new int[] {MIN, -1, 10000, MAX}) {
            CHECK.badArgument("impact(0, " + day + ")", () -> x.impact(0, day));
        }
        CHECK.noElement("impact(0, 31)", () -> x.impact(0, 31));
        CHECK.noElement("impact(0, 9999)", () -> x.impact(0, 9999));
        CHECK.due("impact(0, 30)", 1, x.impact(0, 30));
    }

    private static void promise16FailsWith() {
        FoundRegister x = withThings(5);
        x.link(0, 1, 0);
        x.link(0, 2, 0);
        x.link(3, 0, 1);
        x.link(1, 4, 0);
        x.link(2, 4, 0);
        CHECK.due("failsWith(0, 0, 0)", true, x.failsWith(0, 0, 0));
        CHECK.due("failsWith(0, 1, 0)", false, x.failsWith(0, 1, 0));
        CHECK.due("failsWith(0, 4, 0)", true, x.failsWith(0, 4, 0));
        CHECK.due("failsWith(4, 0, 0)", false, x.failsWith(4, 0, 0));
        CHECK.due("failsWith(3, 4, 0)", true, x.failsWith(3, 4, 0));
        CHECK.due("failsWith(3, 0, 0)", true, x.failsWith(3, 0, 0));
        CHECK.due("failsWith(1, 2, 0)", false, x.failsWith(1, 2, 0));
        x.tell(1, 2, 1);
        CHECK.due("failsWith(2, 1, 0), of the same thing", true, x.failsWith(2, 1, 0));
        CHECK.due("failsWith(3, 2, 0)", true, x.failsWith(3, 2, 0));
        CHECK.due("failsWith(4, 2, 0)", false, x.failsWith(4, 2, 0));
    }

    private static void promise16WrongInputs() {
        FoundRegister x = withThings(2);
        for (int find : new int[] {MIN, -1, 2, 60, MAX}) {
            CHECK.badIndex("failsWith(" + find + ", 0, 0)", () -> x.failsWith(find, 0, 0));
            CHECK.badIndex("failsWith(0, " + find + ", 0)", () -> x.failsWith(0, find, 0));
            CHECK.badIndex("failsWith(0, " + find + ", -1)", () -> x.failsWith(0, find, -1));
        }
        for (int day : new int[] {MIN, -1, 10000, MAX}) {
            CHECK.badArgument("failsWith(0, 1, " + day + ")", () -> x.failsWith(0, 1, day));
            CHECK.badArgument("failsWith(0, 0, " + day + ")", () -> x.failsWith(0, 0, day));
        }
        CHECK.noElement("failsWith(0, 1, 31)", () -> x.failsWith(0, 1, 31));
        CHECK.noElement("failsWith(0, 0, 31)", () -> x.failsWith(0, 0, 31));
        x.strike(1);
        CHECK.noElement("failsWith(0, 1, 0)", () -> x.failsWith(0, 1, 0));
        CHECK.noElement("failsWith(1, 0, 0)", () -> x.failsWith(1, 0, 0));
        CHECK.due("failsWith(0, 0, 0)", true, x.failsWith(0, 0, 0));
    }
}
