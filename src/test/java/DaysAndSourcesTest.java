/** Promises 1 to 5: a new object, pass, today, setTerm, putFirst. */
public final class DaysAndSourcesTest {
    private static final Check CHECK = new Check("DaysAndSourcesTest");
    private static final int MIN = Integer.MIN_VALUE;
    private static final int MAX = Integer.MAX_VALUE;

    public static void main(String[] args) {
        promise1NewObject();
        promise1ObjectsApart();
        promise2Pass();
        promise2LastDay();
        promise3Today();
        promise4SetTerm();
        promise4TermReachesBothDays();
        promise4TermAsItIsNow();
        promise5PutFirst();
        promise5OthersKeepTheirOrder();
        CHECK.end();
    }

    private static void promise1NewObject() {
        FoundRegister x = new FoundRegister();
        CHECK.due("today()", 0, x.today());
        CHECK.due("things(0)", 0, x.things(0));
        CHECK.due("things(9999)", 0, x.things(9999));
        CHECK.due("disputed(0, 0)", 0, x.disputed(0, 0));
        CHECK.due("changed(1, 0, 9999)", 0, x.changed(1, 0, 9999));
        CHECK.badIndex("strike(0)", () -> x.strike(0));
        CHECK.badIndex("differing(0, 0)", () -> x.differing(0, 0));
        for (int source = 0; source < 4; source++) {
            CHECK.due("setTerm at first", 30, x.setTerm(source, 1));
        }
        for (int source = 3; source >= 0; source--) {
            CHECK.due("putFirst from the back", 3, x.putFirst(3));
            x.putFirst(2);
            x.putFirst(1);
            x.putFirst(0);
        }
        CHECK.due("find", 0, x.find(0, 0, 0, 0, -1, -1));
        CHECK.due("find", 1, x.find(0, 0, 0, 0, -1, -1));
        CHECK.due("tell", 0, x.tell(0, 1, 1));
        CHECK.due("link", 1, x.link(0, 1, 0));
        CHECK.due("wish", 0, x.wish(0, 1, 0, 0));
    }

    private static void promise1ObjectsApart() {
        FoundRegister x = new FoundRegister();
        FoundRegister y = new FoundRegister();
        x.pass(7);
        x.setTerm(1, 5);
        x.putFirst(3);
        x.find(0, 1, 0, 0, 1, 1);
        CHECK.due("today() of another object", 0, y.today());
        CHECK.due("setTerm of another object", 30, y.setTerm(1, 6));
        CHECK.due("putFirst of another object", 3, y.putFirst(3));
        CHECK.due("things of another object", 0, y.things(7));
        CHECK.due("find of another object", 0, y.find(0, 1, 0, 0, 1, 1));
    }

    private static void promise2Pass() {
        FoundRegister x = new FoundRegister();
        for (int days : new int[] {MIN, -1, 0, 1001, 10000, MAX}) {
            CHECK.badArgument("pass(" + days + ")", () -> x.pass(days));
        }
        CHECK.due("today() after refusals", 0, x.today());
        CHECK.due("pass(1)", 1, x.pass(1));
        CHECK.due("pass(1000)", 1001, x.pass(1000));
        CHECK.due("pass(25)", 1026, x.pass(25));
    }

    private static void promise2LastDay() {
        FoundRegister x = new FoundRegister();
        for (int turn = 1; turn <= 9; turn++) {
            CHECK.due("pass(1000)", 1000 * turn, x.pass(1000));
        }
        CHECK.badState("pass(1000) to 10000", () -> x.pass(1000));
        CHECK.due("pass(998)", 9998, x.pass(998));
        CHECK.badState("pass(2) to 10000", () -> x.pass(2));
        CHECK.due("today()", 9998, x.today());
        CHECK.due("pass(1) to 9999", 9999, x.pass(1));
        CHECK.badState("pass(1) on 9999", () -> x.pass(1));
        CHECK.badArgument("pass(0) on 9999", () -> x.pass(0));
        CHECK.badArgument("pass(1001) on 9999", () -> x.pass(1001));
        CHECK.badArgument("pass(MAX) on 9999", () -> x.pass(MAX));
        CHECK.due("today()", 9999, x.today());
        x.find(0, 1, 0, 0, 1, 1);
        CHECK.due("counts(0, 9999)", true, x.counts(0, 9999));
        CHECK.due("counts(0, 9998)", false, x.counts(0, 9998));
    }

    private static void promise3Today() {
        FoundRegister x = new FoundRegister();
        CHECK.due("today()", 0, x.today());
        x.pass(3);
        CHECK.due("today()", 3, x.today());
        x.things(500);
        CHECK.due("today() after a look ahead", 3, x.today());
        x.pass(4);
        CHECK.due("today()", 7, x.today());
    }

    private static void promise4SetTerm() {
        FoundRegister x = new FoundRegister();
        for (int source : new int[] {MIN, -1, 4, MAX}) {
            CHECK.badArgument("setTerm(" + source + ", 5)", () -> x.setTerm(source, 5));
        }
        for (int days : new int[] {MIN, -1, 0, 1000, MAX}) {
            CHECK.badArgument("setTerm(2, " + days + ")", () -> x.setTerm(2, days));
        }
        CHECK.due("setTerm(2, 1)", 30, x.setTerm(2, 1));
        CHECK.due("setTerm(2, 999)", 1, x.setTerm(2, 999));
        CHECK.due("setTerm(2, 999)", 999, x.setTerm(2, 999));
        CHECK.due("setTerm(3, 7)", 30, x.setTerm(3, 7));
        CHECK.due("setTerm(0, 8)", 30, x.setTerm(0, 8));
        CHECK.due("setTerm(3, 9)", 7, x.setTerm(3, 9));
    }

    private static void promise4TermReachesBothDays() {
        int[] terms = {1, 2, 29, 30, 31, 999};
        for (int term : terms) {
            FoundRegister x = new FoundRegister();
            x.pass(50);
            x.setTerm(1, term);
            x.find(1, 1, 0, 0, 1, 1);
            CHECK.due("the day before, term " + term, false, x.counts(0, 49));
            CHECK.due("the first day, term " + term, true, x.counts(0, 50));
            CHECK.due("the last day, term " + term, true, x.counts(0, 50 + term));
            CHECK.due("the day after, term " + term, false, x.counts(0, 51 + term));
        }
    }

    private static void promise4TermAsItIsNow() {
        FoundRegister x = new FoundRegister();
        x.find(0, 1, 0, 0, 1, 1);
        x.find(1, 2, 0, 0, 1, 1);
        CHECK.due("counts(0, 30)", true, x.counts(0, 30));
        x.setTerm(0, 10);
        CHECK.due("counts(0, 30) by a shorter term", false, x.counts(0, 30));
        CHECK.due("counts(0, 10) by a shorter term", true, x.counts(0, 10));
        CHECK.due("counts(1, 30) of another source", true, x.counts(1, 30));
        x.setTerm(0, 40);
        CHECK.due("counts(0, 40) by a longer term", true, x.counts(0, 40));
        CHECK.due("counts(0, 41) by a longer term", false, x.counts(0, 41));
    }

    private static void promise5PutFirst() {
        FoundRegister x = new FoundRegister();
        for (int source : new int[] {MIN, -1, 4, MAX}) {
            CHECK.badArgument("putFirst(" + source + ")", () -> x.putFirst(source));
        }
        CHECK.due("putFirst(0)", 0, x.putFirst(0));
        CHECK.due("putFirst(2)", 2, x.putFirst(2)); // 2 0 1 3
        CHECK.due("putFirst(2) again", 0, x.putFirst(2));
        CHECK.due("putFirst(1)", 2, x.putFirst(1)); // 1 2 0 3
        CHECK.due("putFirst(0)", 2, x.putFirst(0)); // 0 1 2 3
        CHECK.due("putFirst(3)", 3, x.putFirst(3)); // 3 0 1 2
        CHECK.due("putFirst(2)", 3, x.putFirst(2)); // 2 3 0 1
        CHECK.due("putFirst(0)", 2, x.putFirst(0)); // 0 2 3 1
        CHECK.due("putFirst(3)", 2, x.putFirst(3)); // 3 0 2 1
        CHECK.due("putFirst(1)", 3, x.putFirst(1)); // 1 3 0 2
    }

    private static void promise5OthersKeepTheirOrder() {
        FoundRegister x = new FoundRegister();
        for (int source = 0; source < 4; source++) {
            x.find(source, 1, 0, 0, 10 + source, -1);
        }
        CHECK.due("value by 0 1 2 3", 10, x.value(0, 0, 0));
        x.putFirst(2);
        CHECK.due("value by 2 0 1 3", 12, x.value(0, 0, 0));
        x.strike(2);
        CHECK.due("value by (2) 0 1 3", 10, x.value(0, 0, 0));
        x.putFirst(3);
        CHECK.due("value by 3 (2) 0 1", 13, x.value(0, 0, 0));
        x.strike(3);
        CHECK.due("value by (3 2) 0 1", 10, x.value(0, 0, 0));
        x.strike(0);
        CHECK.due("value by (3 2 0) 1", 11, x.value(1, 0, 0));
    }
}
