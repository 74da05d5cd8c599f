import java.util.function.Consumer;
import java.util.function.Supplier;

/** Boundary cases, each tested under the sentence of the document that names it. */
final class Edges {
    static final int LEAST_INT = Integer.MIN_VALUE;
    static final int MOST_INT = Integer.MAX_VALUE;
    /** Where there are two boats, these are none. */
    static final int[] NO_BOATS_OF_TWO = {-1, 2, 8, LEAST_INT, MOST_INT};
    static final int[] NOT_0_TO_9 = {-1, 10, LEAST_INT, MOST_INT};

    private final Check check = new Check();
    private String sentence = "";

    /** An exception that no test awaits is a fault of this sentence, and leaves the others to be tested. */
    void of(String words, Runnable test) {
        sentence = words;
        try {
            test.run();
        } catch (RuntimeException e) {
            check.tell(named("threw " + e));
        }
    }

    void due(String what, long got, long want) {
        check.due(named(what), got, want);
    }

    void due(String what, boolean got, boolean want) {
        check.due(named(what), got, want);
    }

    void dueDouble(String what, double got, double want) {
        check.dueDouble(named(what), got, want);
    }

    /** The calls about(boat, 0), about(boat, 1) and so on have to answer this. */
    void dueAbout(ToyRegatta x, int boat, int... want) {
        for (int what = 0; what < want.length; what++) {
            due("about(" + boat + ", " + what + ")", x.about(boat, what), want[what]);
        }
    }

    /** The call has to throw just this, and to leave the regatta as it is made. */
    void refused(String what, Supplier<ToyRegatta> made, Class<?> want, Consumer<ToyRegatta> call) {
        ToyRegatta x = made.get();
        check.dueThrows(named(what), x, want, () -> call.accept(x));
        sameAsTwin(what, x, made.get());
    }

    /** The call has to answer, and to leave the regatta as it is made. */
    void unchanged(String what, Supplier<ToyRegatta> made, Consumer<ToyRegatta> call) {
        ToyRegatta x = made.get();
        call.accept(x);
        sameAsTwin(what, x, made.get());
    }

    /** The digest alone does not tell all: not the pond's length, nor how long a race has lasted. */
    private void sameAsTwin(String what, ToyRegatta x, ToyRegatta twin) {
        String got = playedOn(x);
        String want = playedOn(twin);
        if (!got.equals(want)) {
            check.tell(named(what + " changed something: " + got + ", due is " + want));
        }
    }

    private static String playedOn(ToyRegatta x) {
        StringBuilder seen = new StringBuilder();
        look(x, seen);
        seen.append(' ').append(x.pass(1));
        look(x, seen);
        seen.append(' ').append(x.pass(60));
        look(x, seen);
        // Behind 60 minutes there is no race, so that the pond tells its length.
        seen.append(' ').append(x.pond(60));
        look(x, seen);
        return seen.toString();
    }

    private static void look(ToyRegatta x, StringBuilder seen) {
        seen.append(" [").append(x.digest()).append(' ').append(x.ahead()).append(' ').append(x.champion());
        seen.append(' ').append(x.winner()).append(' ').append(x.mean());
        int boats = x.count(2);
        for (int boat = 0; boat < boats; boat++) {
            seen.append(' ').append(x.when(boat)).append(' ').append(x.advise(boat));
        }
        seen.append(']');
    }

    private String named(String what) {
        return "\"" + sentence + "\": " + what;
    }

    void end(String name) {
        check.end(name);
    }
}
