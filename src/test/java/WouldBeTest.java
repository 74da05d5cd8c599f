/** Promises 14 to 19: falls, when, winner, advise, mean, digest. */
public final class WouldBeTest {
    private static final Check CHECK = new Check();

    public static void main(String[] args) {
        falls();
        fallsWrong();
        when();
        whenWrong();
        winnerWithoutARace();
        winnerInARace();
        winnerByFouls();
        advise();
        adviseByTheMinute();
        adviseWrong();
        mean();
        digest();
        digestInARace();
        CHECK.end("WouldBeTest");
    }

    private static void falls() {
        ToyRegatta x = Regattas.of(Regattas.FOUR, Regattas.TIPPY, Regattas.FIVE, new int[] {5, 1, 0});
        int[] firstWindToFall = {5, 4, 10, 5};
        for (int boat = 0; boat < firstWindToFall.length; boat++) {
            for (int wind = 0; wind <= 9; wind++) {
                boolean due = wind >= firstWindToFall[boat];
                CHECK.due("falls(" + boat + ", " + wind + ")", x.falls(boat, wind), due);
            }
        }
        x.ballast(1, 1);
        CHECK.due("falls with a lead", x.falls(1, 4), false);
        long before = x.digest();
        x.falls(0, 9);
        CHECK.due("digest behind falls", x.digest(), before);
    }

    private static void fallsWrong() {
        ToyRegatta x = Regattas.of(Regattas.FOUR);
        for (int boat : new int[] {-1, 1, 8, Integer.MIN_VALUE, Integer.MAX_VALUE}) {
            CHECK.dueThrows("falls(" + boat + ", 4)", x, Regattas.INDEX, () -> x.falls(boat, 4));
            CHECK.dueThrows("falls(" + boat + ", 10)", x, Regattas.INDEX, () -> x.falls(boat, 10));
        }
        for (int wind : new int[] {-1, 10, Integer.MIN_VALUE, Integer.MAX_VALUE}) {
            CHECK.dueThrows("falls(0, " + wind + ")", x, Regattas.ARGUMENT, () -> x.falls(0, wind));
        }
    }

    private static void when() {
        ToyRegatta x = Regattas.of(Regattas.FIVE, Regattas.FOUR, Regattas.TIPPY);
        CHECK.due("when without a race", x.when(0), -1);
        x.pass(3);
        x.start();
        long before = x.digest();
        CHECK.due("when of 0", x.when(0), 12);
        CHECK.due("when of 1", x.when(1), 15);
        CHECK.due("when of one that will be out", x.when(2), -1);
        CHECK.due("digest behind when", x.digest(), before);
        x.pass(5);
        x.setWind(0, 0);
        CHECK.due("when with less wind", x.when(0), 13);
        x.setWind(0, 4);
        x.pass(7);
        CHECK.due("when of one that is in", x.when(0), 12);
        CHECK.due("when of one that sails", x.when(1), 15);
        x.pass(2);
        CHECK.due("when of one that is out", x.when(2), -1);
        x.pass(1);
        CHECK.due("when behind the race", x.when(0), -1);

        // Too slow for 60 minutes: 1 a minute, but for 59 or 60 of length.
        ToyRegatta slow = new ToyRegatta();
        slow.build(9, 2);
        slow.ballast(0, 9);
        Regattas.windEverywhere(slow, 1);
        slow.start();
        CHECK.due("speed", slow.told(0, 6), 1);
        CHECK.due("when of just 60 minutes", slow.when(0), 60);
        slow.pass(60);
        slow.pond(61);
        slow.start();
        CHECK.due("when of more than 60 minutes", slow.when(0), -1);

        // The minute counts by the table: wind in the minutes 5 to 9, 15 to 19 and from 25 on.
        ToyRegatta breeze = Regattas.of(Regattas.FIVE);
        for (int minute = 0; minute < 5; minute++) {
            breeze.setWind(minute, 0);
        }
        breeze.pass(5);
        breeze.start();
        CHECK.due("when with wind in some minutes", breeze.when(0), 22);
        CHECK.due("when once more", breeze.when(0), 22);

        // Two minutes on the side, then seven of 3.
        ToyRegatta lying = Regattas.of(Regattas.TIPPY);
        Regattas.windEverywhere(lying, 3);
        lying.setWind(0, 4);
        lying.pond(20);
        lying.start();
        lying.pass(1);
        CHECK.due("when of one that lies on the side", lying.when(0), 10);

        // A boat that is not in the race.
        ToyRegatta absent = Regattas.of(Regattas.TIPPY);
        absent.start();
        absent.pass(13);
        absent.build(1, 2);
        absent.ballast(1, 9);
        absent.start();
        CHECK.due("when of one not in the race", absent.when(0), -1);
        CHECK.due("when of one in the race", absent.when(1), 12);
    }

    private static void whenWrong() {
        ToyRegatta x = Regattas.of(Regattas.FOUR, Regattas.FIVE);
        for (int race = 0; race < 2; race++) {
            for (int boat : new int[] {-1, 2, 8, Integer.MIN_VALUE, Integer.MAX_VALUE}) {
                CHECK.dueThrows("when(" + boat + ")", x, Regattas.INDEX, () -> x.when(boat));
            }
            if (race == 0) {
                x.start();
            }
        }
    }

    private static void winnerWithoutARace() {
        CHECK.due("winner without boats", new ToyRegatta().winner(), -1);
        ToyRegatta x = Regattas.of(Regattas.TIPPY, Regattas.THREE, Regattas.FIVE, Regattas.FIVE);
        long before = x.digest();
        CHECK.due("winner of a race to be", x.winner(), 2);
        CHECK.due("digest behind winner", x.digest(), before);
        CHECK.due("no race", x.count(5), 0);
        Regattas.windEverywhere(x, 0);
        CHECK.due("winner without wind", x.winner(), -1);
        CHECK.due("digest behind it", x.count(4), 0);

        ToyRegatta soaked = Regattas.of(Regattas.TIPPY);
        soaked.start();
        soaked.pass(13);
        soaked.ballast(0, 9);
        CHECK.due("winner when none can be started", soaked.winner(), -1);
        soaked.pass(3);
        CHECK.due("winner when one can be", soaked.winner(), 0);
        soaked.build(9, 0);
        CHECK.due("winner of several", soaked.winner(), 1);
    }

    private static void winnerInARace() {
        ToyRegatta x = Regattas.of(Regattas.FOUR, Regattas.FIVE);
        x.start();
        CHECK.due("winner in a race", x.winner(), 1);
        x.pass(13);
        CHECK.due("winner that is in", x.winner(), 1);
        x.pass(2);
        CHECK.due("winner of the next race", x.winner(), 1);
        // The boat that leads the race is not the one that would win a new one.
        ToyRegatta turned = Regattas.of(new int[] {8, 0, 0}, Regattas.FOUR);
        Regattas.windEverywhere(turned, 3);
        turned.start();
        turned.pass(5);
        CHECK.due("winner by the wind 3", turned.winner(), 0);
        Regattas.windEverywhere(turned, 4);
        CHECK.due("winner by the wind 4", turned.winner(), 1);
        long before = turned.digest();
        turned.winner();
        CHECK.due("digest behind winner", turned.digest(), before);

        ToyRegatta late = Regattas.of(Regattas.FOUR);
        Regattas.windEverywhere(late, 0);
        late.start();
        late.pass(50);
        Regattas.windEverywhere(late, 4);
        CHECK.due("winner when too little time is left", late.winner(), -1);
    }

    private static void winnerByFouls() {
        ToyRegatta x = Regattas.of(Regattas.FIVE, Regattas.FIVE, Regattas.FOUR);
        x.judge(65);
        CHECK.due("the one with the smallest number has no foul", x.winner(), 0);
        // Here the boat 1 is faster by the wind of the minute 9 on, but it has fouled.
        ToyRegatta fouled = Regattas.of(new int[] {8, 2, 9}, new int[] {7, 2, 9});
        fouled.pond(20);
        fouled.judge(0);
        fouled.setWind(0, 2);
        fouled.setWind(1, 2);
        CHECK.due("speed of 0", fouled.told(0, 6), 2);
        CHECK.due("speed of 1", fouled.told(1, 6), 2);
        fouled.start();
        fouled.pass(2);
        CHECK.due("fouls", fouled.about(1, 2), 2);
        Regattas.windEverywhere(fouled, 5);
        CHECK.due("winner with fouls that are there", fouled.winner(), 0);
        Regattas.windEverywhere(fouled, 6);
        CHECK.due("when of 0", fouled.when(0), 8);
        CHECK.due("when of 1", fouled.when(1), 8);
        Regattas.windEverywhere(fouled, 5);
        CHECK.due("when of 0", fouled.when(0), 10);
        CHECK.due("when of 1", fouled.when(1), 8);
        CHECK.due("winner with fouls", fouled.winner(), 0);
        fouled.pass(60);
        CHECK.due("points of the winner", fouled.told(0, 3), 8);
    }

    private static void advise() {
        ToyRegatta x = Regattas.of(Regattas.TIPPY, Regattas.FIVE, new int[] {1, 0, 0}, Regattas.FOUR);
        CHECK.due("advise the least that keeps it from falling", x.advise(0), 1);
        CHECK.due("advise the fastest", x.advise(1), 1);
        CHECK.due("advise of a small hull", x.advise(2), 4);
        CHECK.due("advise none", x.advise(3), 0);
        CHECK.due("lead behind advise", x.told(0, 2), 0);
        x.start();
        long before = x.digest();
        CHECK.due("advise in a race", x.advise(0), 1);
        CHECK.due("digest behind advise", x.digest(), before);
        CHECK.due("lead of 1", x.told(1, 2), 9);
        x.pass(13);
        CHECK.due("advise of a soaked sailor", x.advise(0), 1);
        CHECK.due("soaked as before", x.told(0, 4), 9);
        Regattas.windEverywhere(x, 0);
        CHECK.due("advise without wind", x.advise(0), -1);

        ToyRegatta storm = new ToyRegatta();
        storm.build(5, 0);
        Regattas.windEverywhere(storm, 7);
        CHECK.due("advise the most", storm.advise(0), 9);
        Regattas.windEverywhere(storm, 8);
        CHECK.due("advise when it falls with all", storm.advise(0), -1);

        ToyRegatta slow = new ToyRegatta();
        slow.build(9, 2);
        Regattas.windEverywhere(slow, 1);
        slow.pond(119);
        CHECK.due("speed 2, in in 60 minutes", slow.advise(0), 0);
        slow.pond(121);
        CHECK.due("speed 2, not in in 60 minutes", slow.advise(0), -1);
    }

    /** A wind that needs much lead comes in the minute 9 only. */
    private static void adviseByTheMinute() {
        ToyRegatta x = new ToyRegatta();
        x.build(1, 0);
        Regattas.windEverywhere(x, 2);
        x.setWind(9, 5);
        x.pond(20);
        // By the wind 2 it goes 8 a minute without lead; by the wind 5 it falls with a lead of up to 5.
        CHECK.due("advise ahead of the strong wind", x.advise(0), 0);
        x.pass(9);
        CHECK.due("advise in the strong wind", x.advise(0), 6);
    }

    private static void adviseWrong() {
        ToyRegatta empty = new ToyRegatta();
        CHECK.dueThrows("advise without boats", empty, Regattas.INDEX, () -> empty.advise(0));
        ToyRegatta x = Regattas.of(Regattas.FOUR, Regattas.FIVE);
        for (int boat : new int[] {-1, 2, 8, Integer.MIN_VALUE, Integer.MAX_VALUE}) {
            CHECK.dueThrows("advise(" + boat + ")", x, Regattas.INDEX, () -> x.advise(boat));
        }
    }

    private static void mean() {
        ToyRegatta x = new ToyRegatta();
        CHECK.dueDouble("mean without boats", x.mean(), 0.0);
        x.build(1, 0);
        CHECK.dueDouble("mean without lead", x.mean(), 0.0);
        x.ballast(0, 5);
        CHECK.dueDouble("mean of one", x.mean(), 5.0);
        x.build(1, 0);
        CHECK.dueDouble("mean of two", x.mean(), 2.5);
        x.build(1, 0);
        CHECK.dueDouble("mean of three", x.mean(), 5.0 / 3.0);
        x.ballast(2, 9);
        x.start();
        CHECK.dueDouble("mean in a race", x.mean(), 14.0 / 3.0);
    }

    private static void digest() {
        ToyRegatta x = Regattas.of(Regattas.FIVE, Regattas.FIVE, Regattas.TIPPY);
        int[] winds = {4, 4, 4, 4, 4, 4, 4, 4, 4, 4};
        CHECK.due("digest of three boats", x.digest(), Regattas.digest(x, winds));
        x.setWind(3, 9);
        winds[3] = 9;
        x.setWind(7, 1);
        winds[7] = 1;
        CHECK.due("digest with winds", x.digest(), Regattas.digest(x, winds));
        x.judge(42);
        x.judge(7);
        CHECK.due("digest with judges", x.digest(), Regattas.digest(x, winds, 42, 7));
    }

    /** Each look at all numbers is some 50 calls, and 512 are all that an object is used for. */
    private static void digestInARace() {
        ToyRegatta x = Regattas.of(Regattas.FIVE, Regattas.FIVE, Regattas.TIPPY);
        int[] winds = {4, 4, 4, 9, 4, 4, 4, 1, 4, 4};
        x.setWind(3, 9);
        x.setWind(7, 1);
        x.judge(42);
        x.judge(7);
        x.start();
        for (int i = 0; i < 8; i++) {
            CHECK.due("digest in a race", x.digest(), Regattas.digest(x, winds, 42, 7));
            x.pass(i < 7 ? 5 : 30);
        }
        x.judge(199);
        CHECK.due("digest behind a race", x.digest(), Regattas.digest(x, winds, 42, 7, 199));
        CHECK.due("digest twice", x.digest(), x.digest());
    }
}
