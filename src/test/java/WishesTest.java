/** Promises 17 to 19: wish, differing, changed. */
public final class WishesTest {
    private static final Check CHECK = new Check("WishesTest");
    private static final int MIN = Integer.MIN_VALUE;
    private static final int MAX = Integer.MAX_VALUE;

    public static void main(String[] args) {
        promise17Wish();
        promise17TwentyWishes();
        promise17OutOfRange();
        promise18EachMark();
        promise18ThingsNotFinds();
        promise18OnlyFindsThatCount();
        promise18WrongInputs();
        promise19Changed();
        promise19NoneIsAnother();
        promise19ThingsOfEachDay();
        promise19WrongInputs();
        promises18And19WithSixtyFinds();
        CHECK.end();
    }

    private static void promise17Wish() {
        FoundRegister x = new FoundRegister();
        CHECK.due("lowest of all", 0, x.wish(0, 1, 0, 0));
        CHECK.due("highest of all", 1, x.wish(2, 99, 1, 99));
        CHECK.due("one told twice", 2, x.wish(2, 99, 1, 99));
        CHECK.due("one that says the contrary", 3, x.wish(2, 99, 1, 98));
        x.find(0, 1, 0, 99, 0, 99);
        int[] differing = {0, 0, 0, 1};
        for (int wish = 0; wish < 4; wish++) {
            CHECK.due("differing(" + wish + ", 0)", differing[wish], x.differing(wish, 0));
        }
    }

    private static void promise17TwentyWishes() {
        FoundRegister x = new FoundRegister();
        for (int number = 0; number < 20; number++) {
            CHECK.due("wish", number, x.wish(0, number + 1, 0, number));
        }
        CHECK.badState("the wish 21", () -> x.wish(0, 1, 0, 0));
        CHECK.badArgument("the wish 21 out of range", () -> x.wish(3, 1, 0, 0));
        CHECK.badArgument("the wish 21 out of range", () -> x.wish(0, 1, 0, 100));
        x.find(0, 20, 0, 0, 18, -1);
        CHECK.due("differing(19, 0)", 1, x.differing(19, 0));
        CHECK.due("differing(0, 0)", 0, x.differing(0, 0));
        CHECK.badIndex("differing(20, 0)", () -> x.differing(20, 0));
    }

    private static void promise17OutOfRange() {
        FoundRegister x = new FoundRegister();
        int[] lowest = {0, 1, 0, 0};
        int[] highest = {2, 99, 1, 99};
        for (int place = 0; place < 4; place++) {
            for (int bad : new int[] {MIN, lowest[place] - 1, highest[place] + 1, MAX}) {
                int[] p = {1, 1, 1, 1};
                p[place] = bad;
                CHECK.badArgument("wish with " + bad + " at " + place,
                        () -> x.wish(p[0], p[1], p[2], p[3]));
            }
        }
        CHECK.due("the first number after refusals", 0, x.wish(0, 1, 0, 0));
    }

    private static void promise18EachMark() {
        FoundRegister x = new FoundRegister();
        x.find(0, 5, 6, 7, 50, 51);
        for (int mark = 0; mark < 3; mark++) {
            for (int markValue = 5; markValue <= 7; markValue++) {
                int met = x.wish(mark, markValue, 0, 50);
                int missed = x.wish(mark, markValue, 1, 50);
                CHECK.due("differing, met", 0, x.differing(met, 0));
                CHECK.due("differing, mark " + mark + " value " + markValue,
                        markValue == mark + 5 ? 1 : 0, x.differing(missed, 0));
            }
        }
    }

    private static void promise18ThingsNotFinds() {
        FoundRegister x = new FoundRegister();
        x.wish(1, 9, 0, 4);
        CHECK.due("differing(0, 0) of no things", 0, x.differing(0, 0));
        x.find(1, 1, 9, 0, 3, -1);
        x.find(2, 1, 9, 0, 4, -1);
        x.find(0, 2, 9, 0, -1, 4);
        x.find(0, 3, 8, 0, 5, -1);
        CHECK.due("differing(0, 0), a thing once, and one not known", 2, x.differing(0, 0));
        x.putFirst(2);
        CHECK.due("differing(0, 0), the value of the thing counts", 1, x.differing(0, 0));
        x.tell(2, 3, 1);
        CHECK.due("differing(0, 0), the mark of any find counts", 1, x.differing(0, 0));
        x.find(3, 3, 0, 0, 4, -1);
        CHECK.due("differing(0, 0), an outranked value", 1, x.differing(0, 0));
        x.putFirst(3);
        CHECK.due("differing(0, 0), all as wished", 0, x.differing(0, 0));
    }

    private static void promise18OnlyFindsThatCount() {
        FoundRegister x = new FoundRegister();
        x.wish(2, 3, 1, 0);
        x.pass(10);
        x.setTerm(0, 5);
        x.find(0, 0, 0, 3, -1, 1);
        x.find(1, 1, 0, 0, -1, 1);
        x.tell(0, 1, 1);
        CHECK.due("differing(0, 9)", 0, x.differing(0, 9));
        CHECK.due("differing(0, 10)", 1, x.differing(0, 10));
        CHECK.due("differing(0, 15)", 1, x.differing(0, 15));
        CHECK.due("differing(0, 16), the find with the mark is too old", 0, x.differing(0, 16));
        x.strike(0);
        CHECK.due("differing(0, 10) after a strike", 0, x.differing(0, 10));
    }

    private static void promise18WrongInputs() {
        FoundRegister x = new FoundRegister();
        CHECK.badIndex("differing(0, 0) of none", () -> x.differing(0, 0));
        x.wish(0, 1, 0, 0);
        for (int wish : new int[] {MIN, -1, 1, 20, MAX}) {
            CHECK.badIndex("differing(" + wish + ", 0)", () -> x.differing(wish, 0));
            CHECK.badIndex("differing(" + wish + ", -1)", () -> x.differing(wish, -1));
        }
        for (int day : new int[] {MIN, -1, 10000, MAX}) {
            CHECK.badArgument("differing(0, " + day + ")", () -> x.differing(0, day));
        }
        CHECK.due("differing(0, 9999)", 0, x.differing(0, 9999));
    }

    private static void promise19Changed() {
        FoundRegister x = new FoundRegister();
        x.find(1, 1, 0, 0, 5, 6);
        x.find(1, 1, 0, 0, -1, -1);
        x.find(1, 2, 0, 0, 5, 6);
        x.pass(10);
        x.find(1, 1, 0, 0, 7, 6);
        CHECK.due("changed(0, 0, 10)", 2, x.changed(0, 0, 10));
        CHECK.due("changed(0, 10, 0)", 2, x.changed(0, 10, 0));
        CHECK.due("changed(1, 0, 10)", 0, x.changed(1, 0, 10));
        CHECK.due("changed(0, 0, 9)", 0, x.changed(0, 0, 9));
        CHECK.due("changed(0, 10, 10)", 0, x.changed(0, 10, 10));
        CHECK.due("changed(0, 10, 31), those that count on both", 0, x.changed(0, 10, 31));
        CHECK.due("changed(0, 0, 31)", 0, x.changed(0, 0, 31));
        x.strike(1);
        CHECK.due("changed(0, 0, 10) after a strike", 1, x.changed(0, 0, 10));
    }

    private static void promise19NoneIsAnother() {
        FoundRegister x = new FoundRegister();
        x.find(1, 1, 0, 0, -1, -1);
        x.pass(10);
        x.find(1, 1, 0, 0, 0, -1);
        CHECK.due("changed(0, 0, 10), none and 0", 1, x.changed(0, 0, 10));
        CHECK.due("changed(0, 10, 0), 0 and none", 1, x.changed(0, 10, 0));
        CHECK.due("changed(1, 0, 10), none and none", 0, x.changed(1, 0, 10));
    }

    private static void promise19ThingsOfEachDay() {
        FoundRegister x = new FoundRegister();
        x.setTerm(0, 5);
        x.find(0, 1, 0, 0, 3, 8);
        x.find(1, 2, 0, 0, 4, 8);
        x.find(2, 3, 0, 0, 3, -1);
        x.tell(0, 1, 1);
        x.tell(0, 2, 1);
        CHECK.due("changed(0, 5, 6), a thing falls apart", 1, x.changed(0, 5, 6));
        CHECK.due("changed(1, 5, 6), a thing falls apart", 1, x.changed(1, 5, 6));
        x.putFirst(2);
        CHECK.due("changed(0, 5, 6) by another order", 1, x.changed(0, 5, 6));
        CHECK.due("thingOf(2, 6) after it", 2, x.thingOf(2, 6));
        CHECK.due("thingOf(2, 5) after it", 0, x.thingOf(2, 5));
    }

    private static void promise19WrongInputs() {
        FoundRegister x = new FoundRegister();
        for (int attribute : new int[] {MIN, -1, 2, MAX}) {
            CHECK.badArgument("changed(" + attribute + ", 0, 0)",
                    () -> x.changed(attribute, 0, 0));
        }
        for (int day : new int[] {MIN, -1, 10000, MAX}) {
            CHECK.badArgument("changed(0, " + day + ", 0)", () -> x.changed(0, day, 0));
            CHECK.badArgument("changed(0, 0, " + day + ")", () -> x.changed(0, 0, day));
        }
        CHECK.due("changed(1, 9999, 0)", 0, x.changed(1, 9999, 0));
    }

    private static void promises18And19WithSixtyFinds() {
        FoundRegister x = new FoundRegister();
        for (int find = 0; find < 60; find++) {
            x.pass(1);
            x.find(0, find % 30 + 1, 0, find + 1, find < 30 ? 2 : 3, -1);
        }
        x.setTerm(0, 999);
        x.wish(0, 30, 0, 2);
        x.wish(2, 60, 1, 0);
        x.wish(2, 61, 1, 0);
        CHECK.due("differing(0, 60)", 1, x.differing(0, 60));
        CHECK.due("differing(0, 59)", 0, x.differing(0, 59));
        CHECK.due("differing(1, 60)", 1, x.differing(1, 60));
        CHECK.due("differing(2, 60), no find has the mark", 0, x.differing(2, 60));
        CHECK.due("changed(0, 30, 60)", 30, x.changed(0, 30, 60));
        CHECK.due("changed(0, 40, 60)", 20, x.changed(0, 40, 60));
        CHECK.due("changed(1, 30, 60)", 0, x.changed(1, 30, 60));
    }
}
