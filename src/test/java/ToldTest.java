/** Promises 9 to 13: told, about, count, ahead, champion. */
public final class ToldTest {
    private static final Check CHECK = new Check();

    public static void main(String[] args) {
        toldHeelAndSpeed();
        toldOfABoat();
        toldWrong();
        about();
        aboutWrong();
        count();
        countWrong();
        ahead();
        champion();
        CHECK.end("ToldTest");
    }

    /** A row is the wind, hull, rig, lead, and the heel and speed that are due. */
    private static void toldHeelAndSpeed() {
        int[][] rows = {
            {4, 3, 0, 0, 42, 9}, {4, 5, 1, 0, 22, 4}, {4, 1, 2, 0, 34, 12}, {4, 1, 2, 9, 0, 5},
            {4, 9, 0, 0, 30, 4}, {4, 8, 0, 0, 32, 4}, {4, 3, 0, 3, 27, 8}, {4, 3, 0, 2, 32, 8},
            {0, 1, 0, 0, 0, 0}, {0, 1, 1, 0, 0, 0}, {0, 1, 2, 0, 0, 0}, {1, 1, 0, 0, 10, 4},
            {1, 1, 1, 0, 0, 0}, {1, 1, 2, 0, 22, 8}, {3, 1, 1, 0, 14, 5}, {5, 2, 1, 1, 39, 12},
            {9, 1, 0, 0, 106, 20}, {9, 1, 1, 0, 158, 20}, {9, 1, 2, 0, 54, 18}, {9, 9, 1, 9, 97, 10},
            {9, 9, 0, 9, 45, 7}, {9, 9, 2, 9, 0, 3}, {6, 1, 1, 1, 65, 20}, {5, 1, 0, 0, 58, 20},
            {9, 1, 1, 4, 138, 20}, {7, 2, 2, 9, 0, 6}, {7, 2, 2, 8, 4, 6}, {7, 2, 2, 7, 9, 6},
        };
        for (int[] row : rows) {
            ToyRegatta x = new ToyRegatta();
            x.setWind(0, row[0]);
            x.build(row[1], row[2]);
            x.ballast(0, row[3]);
            String boat = " by the wind " + row[0] + " of " + row[1] + ", " + row[2] + ", " + row[3];
            CHECK.due("heel" + boat, x.told(0, 5), row[4]);
            CHECK.due("speed" + boat, x.told(0, 6), row[5]);
        }
    }

    private static void toldOfABoat() {
        ToyRegatta x = Regattas.of(Regattas.FOUR, new int[] {5, 2, 3});
        x.setWind(1, 1);
        int[] now = {5, 2, 3, 0, 0, 11, 4};
        int[] later = {5, 2, 3, 0, 0, 0, 3};
        for (int what = 0; what < now.length; what++) {
            CHECK.due("told " + what, x.told(1, what), now[what]);
        }
        x.pass(1);
        for (int what = 0; what < later.length; what++) {
            CHECK.due("told a minute later " + what, x.told(1, what), later[what]);
        }
        x.start();
        x.pass(90);
        CHECK.due("told points", x.told(1, 3), 8);
        CHECK.due("told points of the second one", x.told(0, 3), 5);

        ToyRegatta lying = Regattas.of(Regattas.TIPPY);
        lying.start();
        lying.pass(1);
        CHECK.due("soaked of one that lies on the side", lying.told(0, 4), 2);
        CHECK.due("heel of one that lies on the side", lying.told(0, 5), 32);
        CHECK.due("speed of one that lies on the side", lying.told(0, 6), 4);
    }

    private static void toldWrong() {
        ToyRegatta empty = new ToyRegatta();
        CHECK.dueThrows("told without boats", empty, Regattas.INDEX, () -> empty.told(0, 0));
        ToyRegatta x = Regattas.of(Regattas.FOUR, Regattas.FIVE);
        for (int boat : new int[] {-1, 2, 8, Integer.MIN_VALUE, Integer.MAX_VALUE}) {
            CHECK.dueThrows("told(" + boat + ", 0)", x, Regattas.INDEX, () -> x.told(boat, 0));
        }
        for (int what : new int[] {-1, 7, Integer.MIN_VALUE, Integer.MAX_VALUE}) {
            CHECK.dueThrows("told(1, " + what + ")", x, Regattas.INDEX, () -> x.told(1, what));
        }
    }

    private static void about() {
        ToyRegatta x = Regattas.of(Regattas.TIPPY);
        x.start();
        x.pass(13);
        x.build(1, 2);
        x.ballast(1, 9);
        x.build(1, 2);
        x.ballast(2, 9);
        x.build(9, 0);
        x.setWind(6, 9);
        // A judge that sees the places 30 to 50.
        x.judge(40);
        CHECK.due("a boat built behind the race was not in it", x.about(1, 4), 0);
        CHECK.due("and has no time", x.about(1, 1), -1);
        x.start();
        x.pass(4);
        // The minutes 13 to 16: three with 5 or 4 a minute, then 8 by a wind of 9, or a fall.
        aboutIs(x, 0, 0, -1, 0, 0, 0);
        aboutIs(x, 1, 23, -1, 0, 0, 1);
        aboutIs(x, 2, 23, -1, 0, 0, 1);
        aboutIs(x, 3, 12, -1, 0, 2, 1);
        x.pass(7);
        aboutIs(x, 1, 58, -1, 0, 0, 1);
        aboutIs(x, 2, 58, -1, 4, 0, 1);
        x.pass(1);
        aboutIs(x, 1, 63, 12, 0, 0, 2);
        aboutIs(x, 2, 63, 12, 4, 0, 2);
        aboutIs(x, 3, 36, -1, 0, 0, 1);
    }

    private static void aboutIs(ToyRegatta x, int boat, int... want) {
        for (int what = 0; what < want.length; what++) {
            CHECK.due("about(" + boat + ", " + what + ")", x.about(boat, what), want[what]);
        }
    }

    private static void aboutWrong() {
        ToyRegatta empty = new ToyRegatta();
        CHECK.dueThrows("about without boats", empty, Regattas.INDEX, () -> empty.about(0, 0));
        ToyRegatta x = Regattas.of(Regattas.FOUR, Regattas.FIVE);
        aboutIs(x, 1, -1, -1, -1, -1, -1);
        for (int i = 0; i < 2; i++) {
            for (int boat : new int[] {-1, 2, 8, Integer.MIN_VALUE, Integer.MAX_VALUE}) {
                CHECK.dueThrows("about(" + boat + ", 0)", x, Regattas.INDEX, () -> x.about(boat, 0));
            }
            for (int what : new int[] {-1, 5, Integer.MIN_VALUE, Integer.MAX_VALUE}) {
                CHECK.dueThrows("about(1, " + what + ")", x, Regattas.INDEX, () -> x.about(1, what));
            }
            x.start();
            x.pass(90);
        }
    }

    private static void count() {
        ToyRegatta x = Regattas.of(Regattas.FIVE, Regattas.FOUR, Regattas.TIPPY);
        x.setWind(2, 7);
        x.judge(5);
        countIs(x, 0, 4, 3, 1, 0, 0, 0, 0, 0);
        x.start();
        countIs(x, 0, 4, 3, 1, 1, 1, 3, 0, 0);
        x.pass(2);
        // One that lies on the side sails.
        countIs(x, 2, 7, 3, 1, 1, 1, 3, 0, 2);
        x.pass(10);
        countIs(x, 12, 7, 3, 1, 1, 1, 2, 0, 10);
        x.pass(1);
        // The tippy boat is out in the 13th minute, and the boat 1 falls by the wind 7 once more.
        countIs(x, 13, 4, 3, 1, 1, 1, 1, 0, 13);
        x.pass(50);
        CHECK.due("points of two", x.count(7), 13);
        CHECK.due("no race", x.count(5), 0);
        CHECK.due("none sails", x.count(6), 0);
        x.pass(90);
        countIs(x, 153, 4, 3, 1, 1, 0, 0, 13, 0);
    }

    private static void countIs(ToyRegatta x, int... want) {
        for (int what = 0; what < want.length; what++) {
            CHECK.due("count(" + what + ") in the minute " + want[0], x.count(what), want[what]);
        }
    }

    private static void countWrong() {
        ToyRegatta x = Regattas.of(Regattas.FIVE);
        for (int what : new int[] {-1, 9, Integer.MIN_VALUE, Integer.MAX_VALUE}) {
            CHECK.dueThrows("count(" + what + ")", x, Regattas.INDEX, () -> x.count(what));
        }
    }

    private static void ahead() {
        CHECK.due("ahead without boats", new ToyRegatta().ahead(), -1);
        ToyRegatta x = Regattas.of(Regattas.THREE, Regattas.FOUR, Regattas.FIVE, Regattas.FIVE);
        CHECK.due("ahead without a race", x.ahead(), -1);
        x.start();
        CHECK.due("ahead at the start", x.ahead(), 0);
        x.pass(1);
        CHECK.due("ahead of all others", x.ahead(), 2);
        x.pass(12);
        CHECK.due("ahead, though in", x.ahead(), 2);
        // The boat 1 comes in at the same place: the smallest number of several.
        x.pass(2);
        CHECK.due("in at one place", x.about(1, 0), 60);
        CHECK.due("ahead of several", x.ahead(), 1);
        x.pass(5);
        CHECK.due("ahead behind the race", x.ahead(), -1);

        // The boat 0 goes far, and is out then.
        ToyRegatta out = Regattas.of(new int[] {8, 0, 0}, new int[] {9, 0, 9});
        out.pond(200);
        out.setWind(0, 3);
        out.start();
        out.pass(1);
        CHECK.due("places", out.about(0, 0) * 100 + out.about(1, 0), 302);
        CHECK.due("ahead while it sails", out.ahead(), 0);
        Regattas.windEverywhere(out, 0);
        for (int fall = 0; fall < 4; fall++) {
            out.setWind(out.count(0) % 10, 4);
            out.pass(1);
            out.setWind((out.count(0) + 9) % 10, 0);
            out.pass(2);
        }
        CHECK.due("soaked", out.told(0, 4), 8);
        for (int minute = 0; minute < 10; minute++) {
            out.setWind(minute, 4);
        }
        out.pass(1);
        CHECK.due("out", out.about(0, 4), 3);
        CHECK.due("ahead of one that is out", out.ahead(), 1);
    }

    private static void champion() {
        CHECK.due("champion without boats", new ToyRegatta().champion(), -1);
        ToyRegatta x = Regattas.of(Regattas.TIPPY, Regattas.FOUR, Regattas.FIVE);
        CHECK.due("champion of equals", x.champion(), 0);
        x.start();
        x.pass(1);
        CHECK.due("champion of the least soaked", x.champion(), 1);
        x.pass(89);
        CHECK.due("champion by points", x.champion(), 2);

        // 8 and 5 points, then 5 and 8: the boat 0 falls over by the wind 9, and is soaked.
        ToyRegatta even = Regattas.of(Regattas.FIVE, Regattas.FIVE);
        even.start();
        even.pass(90);
        even.ballast(0, 2);
        even.ballast(1, 5);
        even.setWind(0, 9);
        even.start();
        CHECK.due("champion in the second race", even.champion(), 0);
        even.pass(10);
        CHECK.due("points of 0", even.told(0, 3), 13);
        CHECK.due("points of 1", even.told(1, 3), 13);
        CHECK.due("soaked of 0", even.told(0, 4), 2);
        CHECK.due("champion of one sum", even.champion(), 1);
        even.pass(20);
        CHECK.due("champion of equals that are dry", even.champion(), 0);
    }
}
