/** Counts and prints the answers that are not as due. */
final class Check {
    /** A call of the class under test. */
    interface Call {
        void make();
    }

    private int wrong = 0;
    private int checked = 0;

    void due(String what, long got, long want) {
        checked++;
        if (got != want) {
            tell(what + " answered " + got + ", due is " + want);
        }
    }

    void due(String what, boolean got, boolean want) {
        due(what, got ? 1L : 0L, want ? 1L : 0L);
    }

    void dueDouble(String what, double got, double want) {
        checked++;
        if (Double.compare(got, want) != 0) {
            tell(what + " answered " + got + ", due is " + want);
        }
    }

    /** The call has to throw exactly this class, by a throw of the class under test, and to change nothing. */
    void dueThrows(String what, ToyRegatta x, Class<?> want, Call call) {
        checked++;
        long before = x.digest();
        RuntimeException got = thrownBy(call);
        if (got == null || got.getClass() != want) {
            tell(what + " threw " + got + ", due is " + want);
        } else if (!isOwn(got)) {
            tell(what + " left its exception to the library or the machine: " + got);
        }
        if (x.digest() != before) {
            tell(what + " changed something");
        }
    }

    private static RuntimeException thrownBy(Call call) {
        try {
            call.make();
            return null;
        } catch (RuntimeException e) {
            return e;
        }
    }

    /** Tells whether the class under test threw it, and not the library that it calls. */
    static boolean isOwn(RuntimeException e) {
        StackTraceElement[] trace = e.getStackTrace();
        return trace.length > 0 && trace[0].getClassName().startsWith("ToyRegatta");
    }

    void tell(String fault) {
        wrong++;
        System.out.println(fault);
    }

    void end(String name) {
        System.out.println(name + ": " + checked + " checks, " + wrong + " wrong");
        if (wrong != 0) {
            System.exit(1);
        }
    }
}
