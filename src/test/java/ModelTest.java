/** All promises: many runs of 512 calls each, by a fixed rule, answered by the class and by the model. */
public final class ModelTest {
    private static final int RUNS = 3000;
    private static final int CALLS = 512;
    private static final int MOST_FAULTS = 20;
    private static final Check CHECK = new Check();
    private static final int[] WRONG = {-1, -2, 10, 100, 1000, Integer.MIN_VALUE, Integer.MAX_VALUE};

    private static long seed;
    private static int faults = 0;
    private static int thrown = 0;
    private static int racesEnded = 0;

    public static void main(String[] args) {
        for (int run = 0; run < RUNS && faults < MOST_FAULTS; run++) {
            seed = run * 7919L + 1;
            play(run);
        }
        CHECK.due("runs with calls that throw", thrown > RUNS, true);
        CHECK.due("runs with races", racesEnded > RUNS, true);
        CHECK.end("ModelTest");
    }

    private static int upTo(int bound) {
        seed = seed * 6364136223846793005L + 1442695040888963407L;
        return (int) Math.floorMod(seed >>> 33, (long) bound);
    }

    /** Mostly a right number, now and then one at the edge or a wrong one. */
    private static int number(int least, int most) {
        int kind = upTo(40);
        if (kind == 0) {
            return WRONG[upTo(WRONG.length)];
        }
        if (kind == 1) {
            return upTo(2) == 0 ? least - 1 : most + 1;
        }
        if (kind < 5) {
            return upTo(2) == 0 ? least : most;
        }
        return least + upTo(most - least + 1);
    }

    private static void play(int run) {
        ToyRegatta x = new ToyRegatta();
        Model m = new Model();
        int calm = 3 + upTo(7);
        for (int call = 0; call < CALLS / 2 && faults < MOST_FAULTS; call++) {
            int kind = upTo(call < 20 ? 12 : 40);
            int a = first(kind, m);
            int b = second(kind, calm);
            String told = "run " + run + ", call " + call + ": " + kind + "(" + a + ", " + b + ")";
            long want = answer(() -> ofModel(m, kind, a, b));
            long got = answer(() -> ofClass(x, kind, a, b));
            compare(told, got, want);
            compare(told + " digest", x.digest(), m.digest());
        }
        racesEnded += m.races;
    }

    private static int first(int kind, Model m) {
        switch (kind) {
            case 0: return upTo(2) == 0 ? 20 + upTo(40) : number(20, 200);
            case 1: case 2: return number(0, 9);
            case 3: case 4: case 5: return number(1, 9);
            case 9: case 10: return upTo(3) == 0 ? number(0, 199) : number(0, 60);
            case 14: case 15: case 16: return number(1, 90);
            case 17: case 18: return number(0, 8);
            case 12: case 13: return 1 + upTo(12);
            default: return number(0, Math.max(0, m.n - 1));
        }
    }

    private static int second(int kind, int calm) {
        switch (kind) {
            case 1: case 2: return upTo(4) == 0 ? number(0, 9) : upTo(calm);
            case 3: case 4: case 5: return number(0, 2);
            case 19: case 20: return number(0, 6);
            case 21: case 22: return number(0, 4);
            default: return number(0, 9);
        }
    }

    interface Answer {
        long make();
    }

    /** The answer, or a number far from all answers for the exception. */
    private static long answer(Answer answer) {
        try {
            return answer.make();
        } catch (IndexOutOfBoundsException | IllegalArgumentException | IllegalStateException e) {
            thrown++;
            return Long.MIN_VALUE + e.getClass().getName().hashCode();
        }
    }

    private static void compare(String told, long got, long want) {
        CHECK.due(told, got, want);
        if (got != want) {
            faults++;
        }
    }

    private static long ofClass(ToyRegatta x, int kind, int a, int b) {
        switch (kind) {
            case 0: return x.pond(a);
            case 1: case 2: return x.setWind(a, b);
            case 3: case 4: case 5: return x.build(a, b);
            case 6: case 7: case 8: return x.ballast(a, b);
            case 9: case 10: return x.judge(a);
            case 11: case 23: case 24: case 25: case 26: return x.start();
            case 12: case 13: case 14: case 15: case 16: case 27: return x.pass(a);
            case 17: case 18: return x.count(a);
            case 19: case 20: return x.told(a, b);
            case 21: case 22: return x.about(a, b);
            case 28: return x.ahead();
            case 29: return x.champion();
            case 30: case 31: return x.falls(a, b) ? 1 : 0;
            case 32: case 33: case 34: return x.when(a);
            case 35: case 36: return x.winner();
            case 37: case 38: return x.advise(a);
            default: return Double.doubleToLongBits(x.mean());
        }
    }

    private static long ofModel(Model m, int kind, int a, int b) {
        switch (kind) {
            case 0: return m.pond(a);
            case 1: case 2: return m.setWind(a, b);
            case 3: case 4: case 5: return m.build(a, b);
            case 6: case 7: case 8: return m.ballast(a, b);
            case 9: case 10: return m.judge(a);
            case 11: case 23: case 24: case 25: case 26: return m.start();
            case 12: case 13: case 14: case 15: case 16: case 27: return m.pass(a);
            case 17: case 18: return m.count(a);
            case 19: case 20: return m.told(a, b);
            case 21: case 22: return m.about(a, b);
            case 28: return m.ahead();
            case 29: return m.champion();
            case 30: case 31: return m.falls(a, b) ? 1 : 0;
            case 32: case 33: case 34: return m.when(a);
            case 35: case 36: return m.winner();
            case 37: case 38: return m.advise(a);
            default: return Double.doubleToLongBits(m.mean());
        }
    }
}
