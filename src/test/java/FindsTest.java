/** Promises 6 to 9: find, strike, tell, counts. */
public final class FindsTest {
    private static final Check CHECK = new Check("FindsTest");
    private static final int MIN = Integer.MIN_VALUE;
    private static final int MAX = Integer.MAX_VALUE;

    public static void main(String[] args) {
        promise6Find();
        promise6OutOfRange();
        promise6SixtyFinds();
        promise7Strike();
        promise7StruckFindStaysAFind();
        promise8Tell();
        promise8WrongInputs();
        promise9Counts();
        promise9WrongInputs();
        CHECK.end();
    }

    private static void promise6Find() {
        FoundRegister x = new FoundRegister();
        CHECK.due("lowest of all", 0, x.find(0, 0, 0, 0, -1, -1));
        CHECK.due("highest of all", 1, x.find(3, 99, 99, 99, 99, 99));
        x.pass(4);
        CHECK.due("a later one", 2, x.find(1, 5, 6, 7, 8, 9));
        CHECK.due("value(0, 0, 4)", -1, x.value(0, 0, 4));
        CHECK.due("value(0, 1, 4)", -1, x.value(0, 1, 4));
        CHECK.due("value(1, 0, 4)", 99, x.value(1, 0, 4));
        CHECK.due("value(1, 1, 4)", 99, x.value(1, 1, 4));
        CHECK.due("value(2, 0, 4)", 8, x.value(2, 0, 4));
        CHECK.due("value(2, 1, 4)", 9, x.value(2, 1, 4));
        CHECK.due("counts(1, 0)", true, x.counts(1, 0));
        CHECK.due("counts(2, 3)", false, x.counts(2, 3));
        CHECK.due("counts(2, 4)", true, x.counts(2, 4));
    }

    private static void promise6OutOfRange() {
        FoundRegister x = new FoundRegister();
        int[] lowest = {0, 0, 0, 0, -1, -1};
        int[] highest = {3, 99, 99, 99, 99, 99};
        for (int place = 0; place < 6; place++) {
            for (int bad : new int[] {MIN, lowest[place] - 1, highest[place] + 1, MAX}) {
                int[] p = {1, 1, 1, 1, 1, 1};
                p[place] = bad;
                CHECK.badArgument("find with " + bad + " at " + place,
                        () -> x.find(p[0], p[1], p[2], p[3], p[4], p[5]));
            }
            for (int good : new int[] {lowest[place], highest[place]}) {
                FoundRegister y = new FoundRegister();
                int[] p = {1, 1, 1, 1, 1, 1};
                p[place] = good;
                CHECK.due("find with " + good + " at " + place, 0,
                        y.find(p[0], p[1], p[2], p[3], p[4], p[5]));
            }
        }
        CHECK.due("things(0) after refusals", 0, x.things(0));
        CHECK.due("the first number after refusals", 0, x.find(1, 1, 1, 1, 1, 1));
    }

    private static void promise6SixtyFinds() {
        FoundRegister x = new FoundRegister();
        for (int number = 0; number < 60; number++) {
            CHECK.due("find", number, x.find(0, number + 1, 0, 0, -1, -1));
        }
        CHECK.badState("the find 61", () -> x.find(0, 1, 0, 0, -1, -1));
        CHECK.badArgument("the find 61 out of range", () -> x.find(4, 1, 0, 0, -1, -1));
        CHECK.badArgument("the find 61 out of range", () -> x.find(0, 1, 0, 0, -1, 100));
        CHECK.due("things(0)", 60, x.things(0));
        x.strike(59);
        CHECK.badState("struck finds have come too", () -> x.find(0, 1, 0, 0, -1, -1));
        CHECK.due("counts(58, 0)", true, x.counts(58, 0));
        CHECK.due("counts(59, 0)", false, x.counts(59, 0));
        CHECK.badIndex("counts(60, 0)", () -> x.counts(60, 0));
    }

    private static void promise7Strike() {
        FoundRegister x = new FoundRegister();
        x.find(0, 1, 0, 0, 1, 1);
        x.find(0, 1, 0, 0, 2, 2);
        x.pass(3);
        for (int find : new int[] {MIN, -1, 2, 60, MAX}) {
            CHECK.badIndex("strike(" + find + ")", () -> x.strike(find));
        }
        CHECK.due("strike(0)", true, x.strike(0));
        CHECK.due("strike(0) again", false, x.strike(0));
        CHECK.due("strike(0) once more", false, x.strike(0));
        CHECK.due("counts(0, 0)", false, x.counts(0, 0));
        CHECK.due("counts(0, 3)", false, x.counts(0, 3));
        CHECK.due("counts(1, 3)", true, x.counts(1, 3));
        x.setTerm(0, 999);
        CHECK.due("counts(0, 3) by a longer term", false, x.counts(0, 3));
        CHECK.due("strike(1)", true, x.strike(1));
        CHECK.due("things(0)", 0, x.things(0));
    }

    private static void promise7StruckFindStaysAFind() {
        FoundRegister x = new FoundRegister();
        x.find(0, 1, 0, 0, 1, 1);
        x.find(0, 2, 0, 0, 2, 2);
        x.strike(0);
        CHECK.due("tell of a struck find", 0, x.tell(0, 1, 2));
        CHECK.due("link of a struck find", 1, x.link(0, 1, 0));
        CHECK.due("the next number", 2, x.find(0, 3, 0, 0, 3, 3));
        CHECK.noElement("thingOf(0, 0)", () -> x.thingOf(0, 0));
    }

    private static void promise8Tell() {
        FoundRegister x = new FoundRegister();
        x.find(0, 1, 0, 0, 1, 1);
        x.find(0, 2, 0, 0, 2, 2);
        x.find(0, 3, 0, 0, 3, 3);
        CHECK.due("tell(0, 1, 0)", 0, x.tell(0, 1, 0));
        CHECK.due("tell(0, 1, 1)", 0, x.tell(0, 1, 1));
        CHECK.due("tell(0, 1, 1) again", 1, x.tell(0, 1, 1));
        CHECK.due("tell(1, 0, 2), the same pair", 1, x.tell(1, 0, 2));
        CHECK.due("tell(0, 2, 2), another pair", 0, x.tell(0, 2, 2));
        CHECK.due("tell(2, 1, 1), another pair", 0, x.tell(2, 1, 1));
        CHECK.due("tell(0, 1, 0)", 2, x.tell(0, 1, 0));
        CHECK.due("tell(1, 0, 0)", 0, x.tell(1, 0, 0));
        CHECK.due("tell(1, 2, 0)", 1, x.tell(1, 2, 0));
        CHECK.due("tell(2, 0, 0)", 2, x.tell(2, 0, 0));
    }

    private static void promise8WrongInputs() {
        FoundRegister x = new FoundRegister();
        x.find(0, 1, 0, 0, 1, 1);
        x.find(0, 2, 0, 0, 2, 2);
        for (int find : new int[] {MIN, -1, 2, 60, MAX}) {
            CHECK.badIndex("tell(" + find + ", 1, 1)", () -> x.tell(find, 1, 1));
            CHECK.badIndex("tell(1, " + find + ", 1)", () -> x.tell(1, find, 1));
            CHECK.badIndex("tell of no find twice", () -> x.tell(find, find, 3));
            CHECK.badIndex("tell out of range too", () -> x.tell(0, find, 3));
        }
        for (int told : new int[] {MIN, -1, 3, MAX}) {
            CHECK.badArgument("tell(0, 1, " + told + ")", () -> x.tell(0, 1, told));
        }
        CHECK.badArgument("tell(0, 0, 1)", () -> x.tell(0, 0, 1));
        CHECK.badArgument("tell(1, 1, 0)", () -> x.tell(1, 1, 0));
        CHECK.due("nothing was told by refusals", 0, x.tell(0, 1, 0));
    }

    private static void promise9Counts() {
        FoundRegister x = new FoundRegister();
        x.find(2, 0, 0, 0, -1, -1);
        x.pass(10);
        x.find(2, 0, 0, 0, -1, -1);
        CHECK.due("counts(0, 0)", true, x.counts(0, 0));
        CHECK.due("counts(0, 30)", true, x.counts(0, 30));
        CHECK.due("counts(0, 31)", false, x.counts(0, 31));
        CHECK.due("counts(0, 9999)", false, x.counts(0, 9999));
        CHECK.due("counts(1, 0)", false, x.counts(1, 0));
        CHECK.due("counts(1, 9)", false, x.counts(1, 9));
        CHECK.due("counts(1, 10)", true, x.counts(1, 10));
        CHECK.due("counts(1, 40)", true, x.counts(1, 40));
        CHECK.due("counts(1, 41)", false, x.counts(1, 41));
        x.strike(1);
        CHECK.due("counts(1, 10) struck", false, x.counts(1, 10));
        CHECK.due("counts(0, 10)", true, x.counts(0, 10));
    }

    private static void promise9WrongInputs() {
        FoundRegister x = new FoundRegister();
        CHECK.badIndex("counts(0, 0) of none", () -> x.counts(0, 0));
        x.find(2, 0, 0, 0, -1, -1);
        for (int find : new int[] {MIN, -1, 1, 60, MAX}) {
            CHECK.badIndex("counts(" + find + ", 0)", () -> x.counts(find, 0));
            CHECK.badIndex("counts(" + find + ", -1)", () -> x.counts(find, -1));
        }
        for (int day : new int[] {MIN, -1, 10000, MAX}) {
            CHECK.badArgument("counts(0, " + day + ")", () -> x.counts(0, day));
        }
    }
}
