import java.util.function.Consumer;

/** The two sentences on calls that throw, for all of the calls together. */
public final class RefusedEdgesTest {
    private static final Edges EDGES = new Edges();

    public static void main(String[] args) {
        EDGES.of("A method that throws an exception changes nothing", RefusedEdgesTest::nothingChanges);
        EDGES.of("If several exceptions apply, the one that is named first is thrown", RefusedEdgesTest::firstNamed);
        EDGES.end("RefusedEdgesTest");
    }

    private static ToyRegatta fullAndRacing() {
        ToyRegatta x = Regattas.eight();
        x.judge(0);
        x.judge(60);
        x.judge(199);
        x.start();
        x.pass(2);
        return x;
    }

    /** Many refused calls on one object, and then it goes on like one on which none was made. */
    private static void nothingChanges() {
        EDGES.unchanged("calls that are refused, in a race", RefusedEdgesTest::fullAndRacing, x -> {
            refuse(x, y -> y.pond(19), y -> y.pond(60), y -> y.setWind(10, 0), y -> y.setWind(0, 10));
            refuse(x, y -> y.build(9, 3), y -> y.build(0, 2), y -> y.build(9, 2));
            refuse(x, y -> y.ballast(8, 0), y -> y.ballast(0, 10), y -> y.ballast(0, 0));
            refuse(x, y -> y.judge(200), y -> y.judge(5), ToyRegatta::start, y -> y.pass(0), y -> y.pass(91));
            refuse(x, y -> y.told(8, 0), y -> y.told(0, 7), y -> y.about(8, 0), y -> y.about(0, 5));
            refuse(x, y -> y.count(9), y -> y.falls(8, 0), y -> y.falls(0, 10));
            refuse(x, y -> y.when(8), y -> y.advise(8));
        });
        EDGES.unchanged("calls that are refused without boats", ToyRegatta::new, x -> {
            refuse(x, y -> y.pond(201), y -> y.setWind(-1, 0), y -> y.setWind(0, -1));
            refuse(x, y -> y.build(1, -1), y -> y.build(10, 0), y -> y.ballast(0, 0), y -> y.judge(-1));
            refuse(x, ToyRegatta::start, y -> y.pass(-1), y -> y.told(0, 0), y -> y.about(0, 0));
            refuse(x, y -> y.count(-1), y -> y.falls(0, 0), y -> y.when(0), y -> y.advise(0));
        });
    }

    @SafeVarargs
    private static void refuse(ToyRegatta x, Consumer<ToyRegatta>... calls) {
        for (Consumer<ToyRegatta> call : calls) {
            boolean thrown = false;
            try {
                call.accept(x);
            } catch (IndexOutOfBoundsException | IllegalArgumentException | IllegalStateException e) {
                thrown = true;
            }
            EDGES.due("a refused call", thrown, true);
        }
    }

    private static void first(String call, Class<?> want, Consumer<ToyRegatta> made) {
        EDGES.refused(call, RefusedEdgesTest::fullAndRacing, want, made);
    }

    /** In a race with 8 boats and 3 judges a state is wrong for each call that may be refused for it. */
    private static void firstNamed() {
        first("pond(19) in a race", Regattas.ARGUMENT, x -> x.pond(19));
        first("setWind(10, 10)", Regattas.INDEX, x -> x.setWind(10, 10));
        first("setWind(-1, -1)", Regattas.INDEX, x -> x.setWind(-1, -1));
        first("build(10, 3) as a ninth one", Regattas.INDEX, x -> x.build(10, 3));
        first("build(9, 3) as a ninth one", Regattas.INDEX, x -> x.build(9, 3));
        first("build(10, 2) as a ninth one", Regattas.ARGUMENT, x -> x.build(10, 2));
        first("ballast(8, 10) in a race", Regattas.INDEX, x -> x.ballast(8, 10));
        first("ballast(8, 9) in a race", Regattas.INDEX, x -> x.ballast(8, 9));
        first("ballast(7, 10) in a race", Regattas.ARGUMENT, x -> x.ballast(7, 10));
        first("judge(200) as a fourth one", Regattas.ARGUMENT, x -> x.judge(200));
        first("falls(8, 10)", Regattas.INDEX, x -> x.falls(8, 10));
        first("falls(-1, -1)", Regattas.INDEX, x -> x.falls(-1, -1));
    }
}
