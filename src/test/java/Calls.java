import java.util.NoSuchElementException;

/** Calls of the register by the name of the method, for tests that write their calls as texts. */
final class Calls {
    /** The same as the document's: an object is good for so many calls. */
    static final int MOST = 512;

    private Calls() {}

    /** Answers what the call answers, or the class of what it throws. */
    static Object answer(FoundRegister x, String name, int... p) {
        try {
            return run(x, name, p);
        } catch (RuntimeException e) {
            return e.getClass();
        }
    }

    static Class<?> exception(char letter) {
        switch (letter) {
            case 'I': return IllegalArgumentException.class;
            case 'S': return IllegalStateException.class;
            case 'B': return IndexOutOfBoundsException.class;
            case 'N': return NoSuchElementException.class;
            default: throw new AssertionError("no exception " + letter);
        }
    }

    private static Object run(FoundRegister x, String name, int[] p) {
        switch (name) {
            case "pass": return x.pass(p[0]);
            case "today": return x.today();
            case "setTerm": return x.setTerm(p[0], p[1]);
            case "putFirst": return x.putFirst(p[0]);
            case "find": return x.find(p[0], p[1], p[2], p[3], p[4], p[5]);
            case "strike": return x.strike(p[0]);
            case "tell": return x.tell(p[0], p[1], p[2]);
            case "counts": return x.counts(p[0], p[1]);
            case "things": return x.things(p[0]);
            case "thingOf": return x.thingOf(p[0], p[1]);
            case "value": return x.value(p[0], p[1], p[2]);
            case "disputed": return x.disputed(p[0], p[1]);
            case "link": return x.link(p[0], p[1], p[2]);
            case "impact": return x.impact(p[0], p[1]);
            case "failsWith": return x.failsWith(p[0], p[1], p[2]);
            case "wish": return x.wish(p[0], p[1], p[2], p[3]);
            case "differing": return x.differing(p[0], p[1]);
            case "changed": return x.changed(p[0], p[1], p[2]);
            default: throw new AssertionError("no method " + name);
        }
    }
}
