/** Promises 10 to 13: things, thingOf, value, disputed. */
public final class ThingsTest {
    private static final Check CHECK = new Check("ThingsTest");
    private static final int MIN = Integer.MIN_VALUE;
    private static final int MAX = Integer.MAX_VALUE;

    public static void main(String[] args) {
        promise10Things();
        promise10WrongInputs();
        promise11BySerial();
        promise11ByNameAndAddress();
        promise11ByHand();
        promise11ByChains();
        promise11OnlyByFindsThatCount();
        promise11WrongInputs();
        promise12OrderOfSources();
        promise12LatestByDay();
        promise12OnlyFindsThatCount();
        promise12WrongInputs();
        promise13Disputed();
        promise13LowestFind();
        promise13WrongInputs();
        promises10To13WithSixtyFinds();
        CHECK.end();
    }

    private static void promise10Things() {
        FoundRegister x = new FoundRegister();
        x.find(0, 1, 0, 0, -1, -1);
        x.find(0, 2, 0, 0, -1, -1);
        x.find(1, 1, 0, 0, -1, -1);
        x.pass(20);
        x.find(0, 3, 0, 0, -1, -1);
        CHECK.due("things(0)", 2, x.things(0));
        CHECK.due("things(19)", 2, x.things(19));
        CHECK.due("things(20)", 3, x.things(20));
        CHECK.due("things(30)", 3, x.things(30));
        CHECK.due("things(31)", 1, x.things(31));
        CHECK.due("things(50)", 1, x.things(50));
        CHECK.due("things(51)", 0, x.things(51));
        CHECK.due("things(9999)", 0, x.things(9999));
        x.strike(1);
        CHECK.due("things(0) after a strike", 1, x.things(0));
    }

    private static void promise10WrongInputs() {
        FoundRegister x = new FoundRegister();
        for (int day : new int[] {MIN, -1, 10000, MAX}) {
            CHECK.badArgument("things(" + day + ")", () -> x.things(day));
        }
    }

    private static boolean same(int[] one, int[] other) {
        FoundRegister x = new FoundRegister();
        x.find(0, one[0], one[1], one[2], -1, -1);
        x.find(3, other[0], other[1], other[2], -1, -1);
        boolean same = x.thingOf(1, 0) == 0;
        CHECK.due("thingOf(0, 0)", 0, x.thingOf(0, 0));
        CHECK.due("things(0)", same ? 1 : 2, x.things(0));
        return same;
    }

    private static void same(boolean want, int[] one, int[] other) {
        String call = java.util.Arrays.toString(one) + " and " + java.util.Arrays.toString(other);
        CHECK.due(call, want, same(one, other));
        CHECK.due(call + " the other way round", want, same(other, one));
    }

    private static void promise11BySerial() {
        same(true, new int[] {5, 0, 0}, new int[] {5, 0, 0});
        same(true, new int[] {5, 1, 2}, new int[] {5, 3, 4});
        same(true, new int[] {99, 1, 2}, new int[] {99, 0, 0});
        same(false, new int[] {5, 0, 0}, new int[] {6, 0, 0});
        same(false, new int[] {5, 1, 2}, new int[] {6, 1, 2});
        same(false, new int[] {0, 0, 0}, new int[] {0, 0, 0});
        same(false, new int[] {5, 0, 0}, new int[] {0, 5, 5});
    }

    private static void promise11ByNameAndAddress() {
        same(true, new int[] {0, 1, 2}, new int[] {0, 1, 2});
        same(true, new int[] {5, 1, 2}, new int[] {0, 1, 2});
        same(false, new int[] {0, 1, 2}, new int[] {0, 1, 3});
        same(false, new int[] {0, 1, 2}, new int[] {0, 4, 2});
        same(false, new int[] {0, 1, 2}, new int[] {0, 2, 1});
        same(false, new int[] {0, 0, 2}, new int[] {0, 0, 2});
        same(false, new int[] {0, 1, 0}, new int[] {0, 1, 0});
        same(false, new int[] {5, 0, 2}, new int[] {0, 0, 2});
        same(false, new int[] {0, 1, 2}, new int[] {0, 0, 2});
    }

    private static void promise11ByHand() {
        FoundRegister x = new FoundRegister();
        x.find(0, 1, 1, 1, -1, -1);
        x.find(0, 2, 2, 2, -1, -1);
        x.find(0, 1, 3, 3, -1, -1);
        x.find(0, 0, 2, 2, -1, -1);
        CHECK.due("thingOf(1, 0)", 1, x.thingOf(1, 0));
        x.tell(1, 0, 1);
        CHECK.due("thingOf(1, 0) joined", 0, x.thingOf(1, 0));
        CHECK.due("thingOf(3, 0) joined with it", 0, x.thingOf(3, 0));
        x.tell(0, 1, 2);
        CHECK.due("thingOf(1, 0) parted", 1, x.thingOf(1, 0));
        CHECK.due("thingOf(2, 0) by serial", 0, x.thingOf(2, 0));
        x.tell(2, 0, 2);
        CHECK.due("thingOf(2, 0) parted", 2, x.thingOf(2, 0));
        x.tell(3, 1, 2);
        CHECK.due("thingOf(3, 0) parted", 3, x.thingOf(3, 0));
        CHECK.due("things(0)", 4, x.things(0));
        x.tell(0, 2, 0);
        x.tell(1, 3, 0);
        CHECK.due("things(0) with nothing told any more", 2, x.things(0));
        x.tell(0, 2, 1);
        CHECK.due("things(0) told what the marks say", 2, x.things(0));
    }

    private static void promise11ByChains() {
        FoundRegister x = new FoundRegister();
        x.find(0, 1, 0, 0, -1, -1);
        x.find(0, 2, 0, 0, -1, -1);
        x.find(0, 3, 0, 0, -1, -1);
        x.find(0, 4, 0, 0, -1, -1);
        x.find(0, 4, 0, 0, -1, -1);
        x.tell(1, 3, 1);
        x.tell(0, 2, 1);
        CHECK.due("thingOf(4, 0)", 1, x.thingOf(4, 0));
        CHECK.due("thingOf(2, 0)", 0, x.thingOf(2, 0));
        x.tell(2, 4, 1);
        CHECK.due("things(0)", 1, x.things(0));
        CHECK.due("thingOf(1, 0) by a chain over higher finds", 0, x.thingOf(1, 0));
        x.tell(0, 1, 2);
        x.tell(3, 0, 2);
        CHECK.due("thingOf(1, 0) whatever was told of the ends", 0, x.thingOf(1, 0));
        CHECK.due("thingOf(3, 0) whatever was told of the ends", 0, x.thingOf(3, 0));
    }

    private static void promise11OnlyByFindsThatCount() {
        FoundRegister x = new FoundRegister();
        x.setTerm(0, 5);
        x.find(0, 1, 0, 0, -1, -1);
        x.find(1, 2, 0, 0, -1, -1);
        x.find(2, 3, 0, 0, -1, -1);
        x.tell(0, 1, 1);
        x.tell(0, 2, 1);
        CHECK.due("thingOf(2, 5)", 0, x.thingOf(2, 5));
        CHECK.due("thingOf(1, 6), the joint counts no more", 1, x.thingOf(1, 6));
        CHECK.due("thingOf(2, 6), the joint counts no more", 2, x.thingOf(2, 6));
        x.tell(2, 1, 1);
        CHECK.due("thingOf(2, 6), the lowest that counts", 1, x.thingOf(2, 6));
        x.strike(0);
        CHECK.due("thingOf(2, 5), the lowest is struck", 1, x.thingOf(2, 5));
        x.pass(3);
        x.find(3, 1, 0, 0, -1, -1);
        CHECK.due("thingOf(3, 3)", 3, x.thingOf(3, 3));
        CHECK.noElement("thingOf(3, 2), before it came", () -> x.thingOf(3, 2));
    }

    private static void promise11WrongInputs() {
        FoundRegister x = new FoundRegister();
        x.pass(1);
        x.find(0, 1, 0, 0, -1, -1);
        for (int find : new int[] {MIN, -1, 1, 60, MAX}) {
            CHECK.badIndex("thingOf(" + find + ", 1)", () -> x.thingOf(find, 1));
            CHECK.badIndex("thingOf(" + find + ", 10000)", () -> x.thingOf(find, 10000));
        }
        for (int day : new int[] {MIN, -1, 10000, MAX}) {
            CHECK.badArgument("thingOf(0, " + day + ")", () -> x.thingOf(0, day));
        }
        CHECK.noElement("thingOf(0, 0)", () -> x.thingOf(0, 0));
        CHECK.noElement("thingOf(0, 32)", () -> x.thingOf(0, 32));
        CHECK.due("thingOf(0, 31)", 0, x.thingOf(0, 31));
        x.strike(0);
        CHECK.badArgument("thingOf(0, -1) of a struck find", () -> x.thingOf(0, -1));
        CHECK.noElement("thingOf(0, 1) of a struck find", () -> x.thingOf(0, 1));
    }

    private static void promise12OrderOfSources() {
        FoundRegister x = new FoundRegister();
        x.find(1, 1, 0, 0, 11, -1);
        x.find(0, 1, 0, 0, -1, 20);
        x.find(2, 1, 0, 0, 12, 22);
        x.find(3, 1, 0, 0, 0, 0);
        x.find(0, 2, 0, 0, -1, 33);
        CHECK.due("value(3, 0, 0), the first source tells none", 11, x.value(3, 0, 0));
        CHECK.due("value(3, 1, 0)", 20, x.value(3, 1, 0));
        x.putFirst(3);
        CHECK.due("value(1, 0, 0), the value 0 is told", 0, x.value(1, 0, 0));
        CHECK.due("value(1, 1, 0), the value 0 is told", 0, x.value(1, 1, 0));
        CHECK.due("value(4, 0, 0), no find tells it", -1, x.value(4, 0, 0));
        CHECK.due("value(4, 1, 0), another thing", 33, x.value(4, 1, 0));
    }

    private static void promise12LatestByDay() {
        FoundRegister x = new FoundRegister();
        x.find(1, 1, 0, 0, 5, 50);
        x.find(1, 1, 0, 0, 4, 51);
        x.pass(1);
        x.find(1, 1, 0, 0, 3, -1);
        x.find(2, 1, 0, 0, 2, 52);
        CHECK.due("value(0, 0, 0), the highest number", 4, x.value(0, 0, 0));
        CHECK.due("value(0, 0, 1), the latest by day", 3, x.value(0, 0, 1));
        CHECK.due("value(0, 1, 1), the latest that tells it", 51, x.value(0, 1, 1));
        x.pass(2);
        x.find(0, 1, 0, 0, 1, -1);
        CHECK.due("value(0, 0, 3), a source before", 1, x.value(0, 0, 3));
        CHECK.due("value(0, 0, 2), as of an earlier day", 3, x.value(0, 0, 2));
    }

    private static void promise12OnlyFindsThatCount() {
        FoundRegister x = new FoundRegister();
        x.setTerm(0, 2);
        x.find(0, 1, 0, 0, 7, 7);
        x.find(1, 1, 0, 0, 8, 8);
        CHECK.due("value(1, 0, 2)", 7, x.value(1, 0, 2));
        CHECK.due("value(1, 0, 3)", 8, x.value(1, 0, 3));
        x.strike(0);
        CHECK.due("value(1, 0, 2) after a strike", 8, x.value(1, 0, 2));
    }

    private static void promise12WrongInputs() {
        FoundRegister x = new FoundRegister();
        x.find(0, 1, 0, 0, 7, 8);
        for (int find : new int[] {MIN, -1, 1, 60, MAX}) {
            CHECK.badIndex("value(" + find + ", 0, 0)", () -> x.value(find, 0, 0));
            CHECK.badIndex("value(" + find + ", 2, -1)", () -> x.value(find, 2, -1));
        }
        for (int attribute : new int[] {MIN, -1, 2, MAX}) {
            CHECK.badArgument("value(0, " + attribute + ", 0)", () -> x.value(0, attribute, 0));
            CHECK.badArgument("value(0, " + attribute + ", 99)", () -> x.value(0, attribute, 99));
        }
        for (int day : new int[] {MIN, -1, 10000, MAX}) {
            CHECK.badArgument("value(0, 0, " + day + ")", () -> x.value(0, 0, day));
        }
        CHECK.noElement("value(0, 0, 31)", () -> x.value(0, 0, 31));
        CHECK.due("value(0, 0, 30)", 7, x.value(0, 0, 30));
        CHECK.due("value(0, 1, 30)", 8, x.value(0, 1, 30));
    }

    private static void promise13Disputed() {
        FoundRegister x = new FoundRegister();
        x.find(0, 1, 0, 0, 5, -1);
        x.find(0, 1, 0, 0, -1, 6);
        x.find(1, 2, 0, 0, 0, 3);
        x.find(1, 2, 0, 0, 0, 4);
        CHECK.due("disputed(0, 0), like values and untold ones", 0, x.disputed(0, 0));
        CHECK.due("disputed(1, 0), of one source too", 1, x.disputed(1, 0));
        x.pass(3);
        x.find(3, 1, 0, 0, 5, 7);
        x.find(3, 1, 0, 0, 9, -1);
        x.find(3, 1, 0, 0, 8, -1);
        CHECK.due("disputed(0, 2)", 0, x.disputed(0, 2));
        CHECK.due("disputed(0, 3), the thing once", 1, x.disputed(0, 3));
        CHECK.due("disputed(1, 3)", 2, x.disputed(1, 3));
        CHECK.due("disputed(1, 31), the older count no more", 0, x.disputed(1, 31));
        CHECK.due("disputed(0, 31)", 1, x.disputed(0, 31));
        x.strike(5);
        x.strike(6);
        CHECK.due("disputed(0, 3) after strikes", 0, x.disputed(0, 3));
        x.tell(2, 3, 2);
        CHECK.due("disputed(1, 0), parted", 0, x.disputed(1, 0));
    }

    private static void promise13LowestFind() {
        FoundRegister x = new FoundRegister();
        x.find(0, 1, 0, 0, 5, 6);
        x.find(0, 1, 0, 0, 4, 6);
        CHECK.due("disputed(0, 0), by the lowest find", 1, x.disputed(0, 0));
        CHECK.due("disputed(1, 0), by the lowest find", 0, x.disputed(1, 0));
    }

    private static void promise13WrongInputs() {
        FoundRegister x = new FoundRegister();
        for (int attribute : new int[] {MIN, -1, 2, MAX}) {
            CHECK.badArgument("disputed(" + attribute + ", 0)", () -> x.disputed(attribute, 0));
        }
        for (int day : new int[] {MIN, -1, 10000, MAX}) {
            CHECK.badArgument("disputed(0, " + day + ")", () -> x.disputed(0, day));
        }
        CHECK.due("disputed(0, 9999)", 0, x.disputed(0, 9999));
        CHECK.due("disputed(1, 0)", 0, x.disputed(1, 0));
    }

    private static void promises10To13WithSixtyFinds() {
        FoundRegister x = new FoundRegister();
        for (int find = 0; find < 60; find++) {
            x.find(0, find + 1, 0, 0, find, -1);
        }
        CHECK.due("things(0), all apart", 60, x.things(0));
        CHECK.due("disputed(0, 0), all apart", 0, x.disputed(0, 0));
        CHECK.due("value(59, 0, 0), all apart", 59, x.value(59, 0, 0));
        for (int find = 59; find > 0; find--) {
            x.tell(find, find - 1, 1);
        }
        CHECK.due("things(0), all joined", 1, x.things(0));
        CHECK.due("thingOf(59, 0), all joined", 0, x.thingOf(59, 0));
        CHECK.due("value(0, 0, 0), all joined", 59, x.value(0, 0, 0));
        CHECK.due("value(0, 1, 0), all joined", -1, x.value(0, 1, 0));
        CHECK.due("disputed(0, 0), all joined", 1, x.disputed(0, 0));
        CHECK.due("disputed(1, 0), all joined", 0, x.disputed(1, 0));
    }
}
