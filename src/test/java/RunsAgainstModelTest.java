/**
 * Runs of 512 calls on the register and on the model at once, whose answers and exceptions must be
 * the same. The calls come from a fixed row of numbers, so that each start gives the same runs.
 */
public final class RunsAgainstModelTest {
    private static final Check CHECK = new Check("RunsAgainstModelTest");
    private static final int RUNS = 200;
    private static final int CALLS = 512;
    private static final int KINDS = 18;

    private long state;
    private FoundRegister register;
    private Model model;
    private int finds;
    private int wishes;
    /** How many unlike marks a run has: few make large things, many make small ones. */
    private int marks;

    public static void main(String[] args) {
        RunsAgainstModelTest test = new RunsAgainstModelTest();
        for (int run = 0; run < RUNS; run++) {
            test.run(run);
        }
        CHECK.end();
    }

    private int below(int bound) {
        state = state * 6364136223846793005L + 1442695040888963407L;
        return (int) ((state >>> 33) % bound);
    }

    /** A number of the range, seldom one just outside of it. */
    private int from(int lowest, int highest) {
        if (below(60) == 0) {
            return below(2) == 0 ? lowest - 1 : highest + 1;
        }
        return lowest + below(highest - lowest + 1);
    }

    private int aFind() {
        return finds == 0 ? below(2) : from(0, finds - 1);
    }

    /** A day near the present one, seldom one from anywhere. */
    private int aDay() {
        int way = below(20);
        if (way == 0) {
            return from(0, 9999);
        }
        int day = model.today() + (way < 8 ? 0 : below(70) - 40);
        return Math.max(0, Math.min(9999, day));
    }

    private int aMark() {
        return below(3) == 0 ? 0 : from(0, marks);
    }

    private int aValue(int lowest) {
        return below(40) == 0 ? from(lowest, 99) : from(lowest, 3);
    }

    private void run(int number) {
        state = 7919L * number + 1;
        register = new FoundRegister();
        model = new Model();
        finds = 0;
        wishes = 0;
        marks = 2 + number % 40;
        for (int call = 0; call < CALLS; call++) {
            int kind = call < 80 && below(2) == 0 ? 4 : below(KINDS + 6);
            // Finds, links and wishes come oftener than one in eighteen.
            step(number, kind < KINDS ? kind : new int[] {4, 12, 4, 12, 15, 6}[kind - KINDS]);
        }
    }

    private void step(int run, int kind) {
        int[] p = parameters(kind);
        String call = "run " + run + ": kind " + kind + java.util.Arrays.toString(p);
        Object want = answer(() -> ofModel(kind, p));
        Object got = answer(() -> ofRegister(kind, p));
        CHECK.due(call, want, got);
        if (want instanceof Integer) {
            finds += kind == 4 ? 1 : 0;
            wishes += kind == 15 ? 1 : 0;
        }
    }

    private static Object answer(Check.Call call) {
        try {
            return call.run();
        } catch (RuntimeException e) {
            return e.getClass();
        }
    }

    private int[] parameters(int kind) {
        switch (kind) {
            case 0: return new int[] {below(300) == 0 ? from(1, 1000) : from(1, 9)};
            case 1: return new int[] {};
            case 2: return new int[] {from(0, 3), below(4) == 0 ? from(1, 999) : from(1, 50)};
            case 3: return new int[] {from(0, 3)};
            case 4: return new int[] {from(0, 3), aMark(), aMark(), aMark(), aValue(-1), aValue(-1)};
            case 5: return new int[] {below(6) == 0 ? aFind() : -1};
            case 6: return new int[] {aFind(), aFind(), from(0, 2)};
            case 8: return new int[] {aDay()};
            case 10: return new int[] {aFind(), from(0, 1), aDay()};
            case 11: return new int[] {from(0, 1), aDay()};
            case 12: return new int[] {aFind(), aFind(), from(0, 3)};
            case 14: return new int[] {aFind(), aFind(), aDay()};
            case 15: return new int[] {from(0, 2), from(1, marks), from(0, 1), aValue(0)};
            case 16: return new int[] {wishes == 0 ? 0 : from(0, wishes - 1), aDay()};
            case 17: return new int[] {from(0, 1), aDay(), aDay()};
            default: return new int[] {aFind(), aDay()};
        }
    }

    private Object ofModel(int kind, int[] p) {
        switch (kind) {
            case 0: return model.pass(p[0]);
            case 1: return model.today();
            case 2: return model.setTerm(p[0], p[1]);
            case 3: return model.putFirst(p[0]);
            case 4: return model.find(p[0], p[1], p[2], p[3], p[4], p[5]);
            case 5: return model.strike(p[0]);
            case 6: return model.tell(p[0], p[1], p[2]);
            case 7: return model.counts(p[0], p[1]);
            case 8: return model.things(p[0]);
            case 9: return model.thingOf(p[0], p[1]);
            case 10: return model.value(p[0], p[1], p[2]);
            case 11: return model.disputed(p[0], p[1]);
            case 12: return model.link(p[0], p[1], p[2]);
            case 13: return model.impact(p[0], p[1]);
            case 14: return model.failsWith(p[0], p[1], p[2]);
            case 15: return model.wish(p[0], p[1], p[2], p[3]);
            case 16: return model.differing(p[0], p[1]);
            default: return model.changed(p[0], p[1], p[2]);
        }
    }

    private Object ofRegister(int kind, int[] p) {
        switch (kind) {
            case 0: return register.pass(p[0]);
            case 1: return register.today();
            case 2: return register.setTerm(p[0], p[1]);
            case 3: return register.putFirst(p[0]);
            case 4: return register.find(p[0], p[1], p[2], p[3], p[4], p[5]);
            case 5: return register.strike(p[0]);
            case 6: return register.tell(p[0], p[1], p[2]);
            case 7: return register.counts(p[0], p[1]);
            case 8: return register.things(p[0]);
            case 9: return register.thingOf(p[0], p[1]);
            case 10: return register.value(p[0], p[1], p[2]);
            case 11: return register.disputed(p[0], p[1]);
            case 12: return register.link(p[0], p[1], p[2]);
            case 13: return register.impact(p[0], p[1]);
            case 14: return register.failsWith(p[0], p[1], p[2]);
            case 15: return register.wish(p[0], p[1], p[2], p[3]);
            case 16: return register.differing(p[0], p[1]);
            default: return register.changed(p[0], p[1], p[2]);
        }
    }
}
