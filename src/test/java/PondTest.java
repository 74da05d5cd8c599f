/** Promises 1 to 6: a new object, pond, setWind, build, ballast, judge. */
public final class PondTest {
    private static final Check CHECK = new Check();

    public static void main(String[] args) {
        newObject();
        pond();
        setWind();
        build();
        ballast();
        judge();
        CHECK.end("PondTest");
    }

    private static void newObject() {
        ToyRegatta x = new ToyRegatta();
        int[] counts = {0, 4, 0, 0, 0, 0, 0, 0, 0};
        for (int what = 0; what < counts.length; what++) {
            CHECK.due("count of a new object " + what, x.count(what), counts[what]);
        }
        CHECK.due("digest of a new object", x.digest(), 4616600883210342005L);
        CHECK.due("length of a new pond", x.pond(60), 60);
        for (int minute = 0; minute < 10; minute++) {
            CHECK.due("first wind of minute " + minute, x.setWind(minute, 4), 4);
        }
        CHECK.due("a new boat's number", x.build(3, 1), 0);
        int[] told = {3, 1, 0, 0, 0, 26, 6};
        for (int what = 0; what < told.length; what++) {
            CHECK.due("told of a new boat " + what, x.told(0, what), told[what]);
        }
    }

    private static void pond() {
        ToyRegatta x = Regattas.of(Regattas.FOUR);
        CHECK.due("pond(20)", x.pond(20), 60);
        CHECK.due("pond(200)", x.pond(200), 20);
        CHECK.due("pond(40)", x.pond(40), 200);
        for (int length : new int[] {19, 201, 0, -1, -60, Integer.MIN_VALUE, Integer.MAX_VALUE}) {
            CHECK.dueThrows("pond(" + length + ")", x, Regattas.ARGUMENT, () -> x.pond(length));
        }
        x.start();
        CHECK.dueThrows("pond(50) in a race", x, Regattas.STATE, () -> x.pond(50));
        CHECK.dueThrows("pond(19) in a race", x, Regattas.ARGUMENT, () -> x.pond(19));
        CHECK.due("come in on 40", x.pass(10), 1);
        CHECK.due("pond(60) behind a race", x.pond(60), 40);
    }

    private static void setWind() {
        ToyRegatta x = new ToyRegatta();
        for (int minute = 0; minute < 10; minute++) {
            CHECK.due("setWind(" + minute + ")", x.setWind(minute, 9 - minute), 4);
        }
        for (int minute = 0; minute < 10; minute++) {
            CHECK.due("wind of minute " + minute, x.count(1), 9 - minute);
            x.pass(1);
        }
        CHECK.due("wind of minute 10", x.count(1), 9);
        CHECK.due("setWind(9, 9)", x.setWind(9, 9), 0);
        for (int minute : new int[] {-1, 10, -10, Integer.MIN_VALUE, Integer.MAX_VALUE}) {
            CHECK.dueThrows("setWind(" + minute + ", 3)", x, Regattas.INDEX, () -> x.setWind(minute, 3));
            CHECK.dueThrows("setWind(" + minute + ", 10)", x, Regattas.INDEX, () -> x.setWind(minute, 10));
        }
        for (int wind : new int[] {-1, 10, Integer.MIN_VALUE, Integer.MAX_VALUE}) {
            CHECK.dueThrows("setWind(0, " + wind + ")", x, Regattas.ARGUMENT, () -> x.setWind(0, wind));
        }
        ToyRegatta racing = Regattas.of(Regattas.FIVE);
        racing.start();
        CHECK.due("setWind in a race", racing.setWind(0, 0), 4);
        racing.pass(1);
        CHECK.due("place without wind", racing.about(0, 0), 0);
    }

    private static void build() {
        ToyRegatta x = new ToyRegatta();
        for (int rig : new int[] {-1, 3, Integer.MIN_VALUE, Integer.MAX_VALUE}) {
            CHECK.dueThrows("build(1, " + rig + ")", x, Regattas.INDEX, () -> x.build(1, rig));
            CHECK.dueThrows("build(0, " + rig + ")", x, Regattas.INDEX, () -> x.build(0, rig));
        }
        for (int hull : new int[] {0, 10, -1, Integer.MIN_VALUE, Integer.MAX_VALUE}) {
            CHECK.dueThrows("build(" + hull + ", 0)", x, Regattas.ARGUMENT, () -> x.build(hull, 0));
        }
        for (int number = 0; number < 8; number++) {
            CHECK.due("build " + number, x.build(number + 1, number % 3), number);
            CHECK.due("hull", x.told(number, 0), number + 1);
            CHECK.due("rig", x.told(number, 1), number % 3);
        }
        CHECK.due("boats", x.count(2), 8);
        CHECK.dueThrows("a ninth boat", x, Regattas.STATE, () -> x.build(9, 2));
        CHECK.dueThrows("a ninth boat's rig", x, Regattas.INDEX, () -> x.build(0, 3));
        CHECK.dueThrows("a ninth boat's hull", x, Regattas.ARGUMENT, () -> x.build(10, 2));

        ToyRegatta racing = Regattas.of(Regattas.FOUR);
        racing.start();
        CHECK.dueThrows("build in a race", racing, Regattas.STATE, () -> racing.build(1, 1));
        CHECK.dueThrows("rig in a race", racing, Regattas.INDEX, () -> racing.build(1, -1));
        CHECK.dueThrows("hull in a race", racing, Regattas.ARGUMENT, () -> racing.build(0, 1));
        racing.pass(15);
        CHECK.due("build behind a race", racing.build(9, 2), 1);
    }

    private static void ballast() {
        ToyRegatta x = new ToyRegatta();
        CHECK.dueThrows("ballast without boats", x, Regattas.INDEX, () -> x.ballast(0, 0));
        x.build(4, 1);
        x.build(9, 0);
        CHECK.due("first lead", x.ballast(1, 9), 0);
        CHECK.due("second lead", x.ballast(1, 5), 9);
        CHECK.due("third lead", x.ballast(1, 0), 5);
        CHECK.due("lead told", x.told(1, 2), 0);
        CHECK.due("the other one's lead", x.ballast(0, 7), 0);
        CHECK.due("the other one's lead told", x.told(0, 2), 7);
        for (int boat : new int[] {-1, 2, 8, Integer.MIN_VALUE, Integer.MAX_VALUE}) {
            CHECK.dueThrows("ballast(" + boat + ", 1)", x, Regattas.INDEX, () -> x.ballast(boat, 1));
            CHECK.dueThrows("ballast(" + boat + ", 10)", x, Regattas.INDEX, () -> x.ballast(boat, 10));
        }
        for (int lead : new int[] {-1, 10, Integer.MIN_VALUE, Integer.MAX_VALUE}) {
            CHECK.dueThrows("ballast(0, " + lead + ")", x, Regattas.ARGUMENT, () -> x.ballast(0, lead));
        }
        x.start();
        CHECK.dueThrows("ballast in a race", x, Regattas.STATE, () -> x.ballast(0, 1));
        CHECK.dueThrows("no boat in a race", x, Regattas.INDEX, () -> x.ballast(2, 10));
        CHECK.dueThrows("too much lead in a race", x, Regattas.ARGUMENT, () -> x.ballast(0, 10));
        x.pass(60);
        CHECK.due("lead behind a race", x.ballast(0, 1), 7);
    }

    private static void judge() {
        ToyRegatta x = Regattas.of(Regattas.FOUR);
        for (int place : new int[] {-1, 200, Integer.MIN_VALUE, Integer.MAX_VALUE}) {
            CHECK.dueThrows("judge(" + place + ")", x, Regattas.ARGUMENT, () -> x.judge(place));
        }
        CHECK.due("first judge", x.judge(199), 1);
        x.start();
        CHECK.due("a judge in a race", x.judge(0), 2);
        CHECK.due("a judge at the same place", x.judge(0), 3);
        CHECK.due("judges", x.count(3), 3);
        CHECK.dueThrows("a fourth judge", x, Regattas.STATE, () -> x.judge(5));
        CHECK.dueThrows("a fourth judge's place", x, Regattas.ARGUMENT, () -> x.judge(200));
    }
}
