/** Counts and prints the answers that are not as due. */
final class Check {
    /** A call of the class under test. */
    interface Call {
        void make();
    }

    private int wrong = 0;
    private int checked = 0;

    void due(String what, long got, long want) {
        checked++;
        if (got != want) {
            tell(what + " answered " + got + ", due is " + want);
        }
    }

    void due(String what, boolean got, boolean want) {
        due(what, got ? 1L : 0L, want ? 1L : 0L);
    }

    void dueDouble(String what, double got, double want) {
        checked++;
        if (Double.compare(got, want) != 0) {
            tell(what + " answered " + got + ", due is " + want);
        }
    }

    /** The call has to throw exactly this class, and to change nothing. */
    void dueThrows(String what, ToyRegatta x, Class<?> want, Call call) {
        checked++;
        long before = x.digest();
        Class<?> got = thrownBy(call);
        if (got != want) {
            tell(what + " threw " + got + ", due is " + want);
        }
        if (x.digest() != before) {
            tell(what + " changed something");
        }
    }

    static Class<?> thrownBy(Call call) {
        try {
            call.make();
            return null;
        } catch (RuntimeException e) {
            return e.getClass();
        }
    }

    void tell(String fault) {
        wrong++;
        System.out.println(fault);
    }

    void end(String name) {
        System.out.println(name + ": " + checked + " checks, " + wrong + " wrong");
        if (wrong != 0) {
            System.exit(1);
        }
    }
}
