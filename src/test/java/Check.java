/** What the project's tests share: answers that are due, exceptions that are due, the end of a test. */
final class Check {
    interface Call {
        Object run();
    }

    private final String test;
    private int checks = 0;
    private int wrong = 0;

    Check(String test) {
        this.test = test;
    }

    void due(String call, Object want, Object got) {
        checks++;
        if (!want.equals(got)) {
            wrong++;
            System.out.println(test + ": " + call + " answered " + got + ", due is " + want);
        }
    }

    /** The exception's very class is due, not one below it. */
    void thrown(String call, Class<? extends RuntimeException> want, Call run) {
        Object got;
        try {
            got = run.run();
        } catch (RuntimeException e) {
            got = e.getClass();
        }
        due(call, want, got);
    }

    void badArgument(String call, Call run) {
        thrown(call, IllegalArgumentException.class, run);
    }

    void badState(String call, Call run) {
        thrown(call, IllegalStateException.class, run);
    }

    void badIndex(String call, Call run) {
        thrown(call, IndexOutOfBoundsException.class, run);
    }

    void noElement(String call, Call run) {
        thrown(call, java.util.NoSuchElementException.class, run);
    }

    void end() {
        System.out.println(test + ": " + checks + " checks, " + wrong + " wrong");
        if (wrong != 0 || checks == 0) {
            System.exit(1);
        }
    }
}
