import java.math.BigInteger;
import java.util.function.Supplier;

/** The boundary cases that the promises 14 to 19 name: falls, when, winner, advise, mean, digest. */
public final class WouldBeEdgesTest {
    private static final Edges EDGES = new Edges();
    private static final int[] FIRST_WINDS = {4, 4, 4, 4, 4, 4, 4, 4, 4, 4};

    public static void main(String[] args) {
        EDGES.of("Returns whether it would fall over by this wind", WouldBeEdgesTest::fallsByHeel);
        EDGES.of("Returns whether it would fall over by this wind", WouldBeEdgesTest::fallsHoweverItIs);
        EDGES.of("falls: if there is no such boat", WouldBeEdgesTest::fallsOfNoBoat);
        EDGES.of("falls: if wind is not 0 to 9", WouldBeEdgesTest::fallsByNoWind);
        EDGES.of("the time with which it will be in, if nothing is done", WouldBeEdgesTest::whenOfOneThatSails);
        EDGES.of("(if it is in, its time)", WouldBeEdgesTest::whenOfOneThatIsIn);
        EDGES.of("when: -1 if it will not", WouldBeEdgesTest::whenOfOneThatWillNot);
        EDGES.of("when: or there is none (nothing is changed)", WouldBeEdgesTest::whenWithoutARace);
        EDGES.of("when: if there is no such boat", WouldBeEdgesTest::whenOfNoBoat);
        EDGES.of("the boat that will win the race", WouldBeEdgesTest::winnerInARace);
        EDGES.of("or, without one, that would win it, if it was started now", WouldBeEdgesTest::winnerWithoutARace);
        EDGES.of("be the first as points are given", WouldBeEdgesTest::firstAsPointsAreGiven);
        EDGES.of("winner: -1 if none will be in", WouldBeEdgesTest::winnerOfNoneIn);
        EDGES.of("or none can be started (nothing is changed)", WouldBeEdgesTest::winnerOfNoneStarted);
        EDGES.of("with how much lead it would be in the soonest", WouldBeEdgesTest::soonest);
        EDGES.of("(instead of the one that there is, if there is one)", WouldBeEdgesTest::adviseInARace);
        EDGES.of("and its sailor was dry", WouldBeEdgesTest::adviseOfADrySailor);
        EDGES.of("advise: of several the least", WouldBeEdgesTest::leastOfSeveral);
        EDGES.of("-1 if with none of 0 to 9 (nothing is changed)", WouldBeEdgesTest::adviseNone);
        EDGES.of("advise: if there is no such boat", WouldBeEdgesTest::adviseOfNoBoat);
        EDGES.of("Returns the mean of the leads of all boats", WouldBeEdgesTest::means);
        EDGES.of("0 without any", WouldBeEdgesTest::meanWithoutBoats);
        EDGES.of("A number d starts with 1319", WouldBeEdgesTest::digestOfNothing);
        EDGES.of("d becomes d * 31 + x, which wraps around as a 64-bit integer", WouldBeEdgesTest::digestWraps);
        EDGES.of("what count() tells, in its order; the wind of each minute", WouldBeEdgesTest::digestOfEachNumber);
        EDGES.end("WouldBeEdgesTest");
    }

    private static void fallsByHeel() {
        ToyRegatta x = Regattas.of(new int[] {7, 0, 1}, new int[] {9, 0, 0}, new int[] {6, 0, 1}, new int[] {1, 1, 0});
        EDGES.due("a heel of 29", x.falls(0, 4), false);
        EDGES.due("a heel of 30", x.falls(1, 4), false);
        EDGES.due("a heel of 31", x.falls(2, 4), true);
        EDGES.due("the least wind", x.falls(3, 0), false);
        EDGES.due("the most wind", x.falls(3, 9), true);
        EDGES.due("a wind of 4", x.falls(3, 4), false);
        EDGES.due("a wind of 5", x.falls(3, 5), true);
        EDGES.due("the most wind with the most lead", Regattas.of(Regattas.CRAWLER).falls(0, 9), false);
        EDGES.unchanged("falls", Regattas::mixed, y -> y.falls(2, 9));
    }

    private static void fallsHoweverItIs() {
        dueFalls("not in the race", Regattas.mixed(), 0, true);
        dueFalls("sailing", Regattas.mixed(), 1, false);
        dueFalls("on the side", Regattas.mixed(), 2, true);
        ToyRegatta x = Regattas.outAndIn();
        dueFalls("out", x, 0, true);
        dueFalls("in", x, 1, false);
        x.pass(15);
        EDGES.due("a race", x.count(5), 0);
        dueFalls("that was out", x, 0, true);
        dueFalls("that was in", x, 1, false);
        x.ballast(0, 1);
        dueFalls("that was out, with more lead", x, 0, false);
        dueFalls("on the side behind the race", Regattas.lyingBehindARace(), 0, true);
        for (int soaked = 0; soaked <= 9; soaked++) {
            dueFalls("soaked by " + soaked, Regattas.soakedBy(soaked), 0, true);
        }
    }

    /** By the wind 3 none of them falls over, whatever the wind now is. */
    private static void dueFalls(String how, ToyRegatta x, int boat, boolean byFour) {
        for (int now : new int[] {0, 4, 9}) {
            Regattas.windEverywhere(x, now);
            EDGES.due("by the wind 3, one " + how, x.falls(boat, 3), false);
            EDGES.due("by the wind 4, one " + how, x.falls(boat, 4), byFour);
        }
    }

    private static void fallsOfNoBoat() {
        EDGES.refused("falls(0, 4) without boats", ToyRegatta::new, Regattas.INDEX, x -> x.falls(0, 4));
        for (int boat : Edges.NO_BOATS_OF_TWO) {
            for (int wind : new int[] {0, 9, -1, 10}) {
                EDGES.refused("falls(" + boat + ", " + wind + ")", Regattas::two, Regattas.INDEX,
                    x -> x.falls(boat, wind));
            }
        }
        EDGES.refused("falls(8, 4) of eight", Regattas::eight, Regattas.INDEX, x -> x.falls(8, 4));
        EDGES.due("falls(7, 4) of eight", Regattas.eight().falls(7, 4), false);
    }

    private static void fallsByNoWind() {
        for (int wind : new int[] {-1, 10, Edges.LEAST_INT, Edges.MOST_INT}) {
            for (int boat : new int[] {0, 1}) {
                EDGES.refused("falls(" + boat + ", " + wind + ")", Regattas::twoRacing, Regattas.ARGUMENT,
                    x -> x.falls(boat, wind));
            }
        }
    }

    private static void whenOfOneThatSails() {
        ToyRegatta x = Regattas.twoRacing();
        EDGES.due("at the start", x.when(0), 12);
        x.pass(11);
        EDGES.due("ahead of its last minute", x.when(0), 12);
        Regattas.windEverywhere(x, 0);
        EDGES.due("without wind", x.when(0), -1);
        Regattas.windEverywhere(x, 9);
        EDGES.due("with more wind", x.when(0), 12);
        // Two minutes on the side, and then 20 of 3.
        ToyRegatta lies = Regattas.racing(Regattas.TIPPY);
        lies.pass(1);
        Regattas.windEverywhere(lies, 3);
        EDGES.due("of one that lies on the side", lies.when(0), 23);
        lies.pass(2);
        EDGES.due("of one that goes on again", lies.when(0), 23);
        ToyRegatta eight = Regattas.eight();
        eight.start();
        EDGES.due("of the last one of eight", eight.when(7), 12);
    }

    private static void whenOfOneThatIsIn() {
        ToyRegatta x = Regattas.twoRacing();
        x.pass(12);
        EDGES.due("in this minute", x.when(0), 12);
        Regattas.windEverywhere(x, 0);
        x.pass(47);
        EDGES.due("in the last minute", x.when(0), 12);
        x.pass(1);
        EDGES.due("behind the race", x.when(0), -1);
    }

    private static void whenOfOneThatWillNot() {
        for (int length = 60; length <= 61; length++) {
            ToyRegatta x = Regattas.of(Regattas.CRAWLER);
            Regattas.windEverywhere(x, 1);
            x.pond(length);
            x.pass(7);
            x.start();
            int want = length == 60 ? 60 : -1;
            EDGES.due("of one that needs " + length + " minutes", x.when(0), want);
            x.pass(59);
            EDGES.due("in the last minute, of one that needs " + length, x.when(0), want);
        }
        ToyRegatta x = Regattas.mixed();
        EDGES.due("of one that is not in the race", x.when(0), -1);
        EDGES.due("of one that will be in", x.when(1), 12);
        EDGES.due("of one that will be out", x.when(2), -1);
        x.pass(11);
        EDGES.due("of one that is out", x.when(2), -1);
    }

    private static void whenWithoutARace() {
        ToyRegatta x = Regattas.two();
        EDGES.due("ahead of all races", x.when(0), -1);
        x.start();
        x.pass(15);
        EDGES.due("behind a race", x.when(0), -1);
        EDGES.due("of one that lies behind the race", Regattas.lyingBehindARace().when(0), -1);
        EDGES.unchanged("when without a race", Regattas::two, y -> y.when(1));
        EDGES.unchanged("when in a race", Regattas::mixed, y -> y.when(1));
    }

    private static void whenOfNoBoat() {
        EDGES.refused("when(0) without boats", ToyRegatta::new, Regattas.INDEX, x -> x.when(0));
        for (int boat : Edges.NO_BOATS_OF_TWO) {
            EDGES.refused("when(" + boat + ") without a race", Regattas::two, Regattas.INDEX,
                x -> x.when(boat));
            EDGES.refused("when(" + boat + ")", Regattas::twoRacing, Regattas.INDEX, x -> x.when(boat));
        }
        EDGES.refused("when(8) of eight", Regattas::eight, Regattas.INDEX, x -> x.when(8));
    }

    private static void winnerInARace() {
        ToyRegatta x = Regattas.racing(Regattas.FOUR, Regattas.FIVE);
        EDGES.due("at the start", x.winner(), 1);
        x.pass(12);
        EDGES.due("that is in", x.winner(), 1);
        x.pass(2);
        EDGES.due("in the last minute", x.winner(), 1);
        // The tippy boat needs one more minute; in a race that was started now it would fall over in the next ones.
        ToyRegatta started = Regattas.of(Regattas.CRAWLER, Regattas.TIPPY);
        ToyRegatta waiting = Regattas.of(Regattas.CRAWLER, Regattas.TIPPY);
        started.pond(20);
        waiting.pond(20);
        started.start();
        for (ToyRegatta y : new ToyRegatta[] {started, waiting}) {
            Regattas.blow(y, 3, 6);
            Regattas.windEverywhere(y, 4);
            y.setWind(6, 3);
        }
        EDGES.due("place of the tippy one", started.about(1, 0), 18);
        EDGES.due("of the race that there is", started.winner(), 1);
        EDGES.due("of one that was started now", waiting.winner(), 0);
        EDGES.unchanged("winner in a race", Regattas::mixed, ToyRegatta::winner);
    }

    private static void winnerWithoutARace() {
        ToyRegatta x = Regattas.of(Regattas.TIPPY, Regattas.FOUR, Regattas.FIVE);
        EDGES.due("ahead of all races", x.winner(), 2);
        x.start();
        x.pass(60);
        EDGES.due("behind a race", x.winner(), 2);
        // By the wind 3 both go 3 a minute; by the wind 4 of the minute 0 the boat 0 falls over.
        ToyRegatta now = Regattas.of(Regattas.TIPPY, Regattas.FOUR);
        now.pond(20);
        Regattas.windEverywhere(now, 3);
        now.setWind(0, 4);
        EDGES.due("in the minute 0", now.winner(), 1);
        now.pass(1);
        EDGES.due("in the minute 1", now.winner(), 0);
        EDGES.unchanged("winner without a race", Regattas::two, ToyRegatta::winner);
    }

    private static void firstAsPointsAreGiven() {
        EDGES.due("of eight with one time", Regattas.eight().winner(), 0);
        ToyRegatta x = Regattas.of(Regattas.FOUR, Regattas.FIVE);
        EDGES.due("by the time", x.winner(), 1);
        // The boat 1 has two fouls of two minutes in which both go 2; then it is faster than the boat 0.
        ToyRegatta slow = Regattas.of(new int[] {8, 2, 9}, new int[] {7, 2, 9});
        slow.pond(20);
        slow.judge(0);
        slow.start();
        Regattas.blow(slow, 2, 2);
        EDGES.due("fouls", slow.about(1, 2), 2);
        Regattas.windEverywhere(slow, 5);
        EDGES.due("when of 0", slow.when(0), 10);
        EDGES.due("when of 1", slow.when(1), 8);
        EDGES.due("by 10, and by 8 and 6 for two fouls", slow.winner(), 0);
        slow.pass(20);
        EDGES.due("points of the winner", slow.told(0, 3), 8);
        ToyRegatta tie = Regattas.of(Regattas.FOUR, Regattas.FIVE, Regattas.FIVE);
        tie.judge(70);
        EDGES.due("by 15, 12, and 12 and 3 for a foul", tie.winner(), 1);
    }

    private static void winnerOfNoneIn() {
        ToyRegatta x = Regattas.two();
        Regattas.windEverywhere(x, 0);
        EDGES.due("without a race", x.winner(), -1);
        x.start();
        EDGES.due("in a race", x.winner(), -1);
        for (int length = 60; length <= 61; length++) {
            ToyRegatta slow = Regattas.of(Regattas.CRAWLER);
            Regattas.windEverywhere(slow, 1);
            slow.pond(length);
            int want = length == 60 ? 0 : -1;
            EDGES.due("of one that needs " + length + " minutes, without a race", slow.winner(), want);
            slow.start();
            EDGES.due("of one that needs " + length + " minutes", slow.winner(), want);
            slow.pass(59);
            EDGES.due("in the last minute, of one that needs " + length, slow.winner(), want);
        }
        EDGES.due("of one that will be out", Regattas.of(Regattas.TIPPY).winner(), -1);
    }

    private static void winnerOfNoneStarted() {
        EDGES.due("without boats", new ToyRegatta().winner(), -1);
        Supplier<ToyRegatta> soaked = () -> {
            ToyRegatta x = Regattas.soakedBy(9);
            x.ballast(0, 9);
            return x;
        };
        EDGES.due("of one that is soaked by 9", soaked.get().winner(), -1);
        ToyRegatta later = soaked.get();
        later.pass(3);
        EDGES.due("of one that is soaked by 8", later.winner(), 0);
        // Behind a race that it has won, and with a boat that can't start.
        ToyRegatta won = Regattas.racing(Regattas.FIVE);
        won.pass(12);
        won.ballast(0, 0);
        won.start();
        won.pass(13);
        EDGES.due("points", won.told(0, 3), 8);
        EDGES.due("of one that has won before", won.winner(), -1);
        EDGES.unchanged("winner without boats", ToyRegatta::new, ToyRegatta::winner);
        EDGES.unchanged("winner of one that is soaked", soaked, ToyRegatta::winner);
    }

    private static void soonest() {
        ToyRegatta calm = Regattas.of(Regattas.FOUR);
        EDGES.due("the least lead", calm.advise(0), 0);
        ToyRegatta storm = Regattas.of(new int[] {5, 0, 0});
        Regattas.windEverywhere(storm, 7);
        EDGES.due("the most lead", storm.advise(0), 9);
        EDGES.due("lead that keeps it from falling", Regattas.of(Regattas.TIPPY).advise(0), 1);
        EDGES.due("its own lead does not matter", Regattas.of(Regattas.FIVE).advise(0), 1);
        // It goes 2 a minute at the most, 24 / 11: a race of 60 minutes is just long enough for 120.
        ToyRegatta slow = Regattas.of(Regattas.CRAWLER);
        Regattas.windEverywhere(slow, 1);
        slow.pond(120);
        EDGES.due("in the 60th minute", slow.advise(0), 0);
        slow.pond(121);
        EDGES.due("not in 60 minutes", slow.advise(0), -1);
        // By the wind 2 it goes 8 a minute without lead, but by the wind 5 it falls with a lead of up to 5.
        ToyRegatta now = Regattas.of(new int[] {1, 0, 0});
        Regattas.windEverywhere(now, 2);
        now.setWind(9, 5);
        now.pond(20);
        now.pass(6);
        EDGES.due("ahead of three minutes of less wind", now.advise(0), 0);
        now.pass(1);
        EDGES.due("ahead of two minutes of less wind", now.advise(0), 6);
    }

    private static void adviseInARace() {
        ToyRegatta x = Regattas.mixed();
        EDGES.due("of one that is not in it", x.advise(0), 1);
        EDGES.due("of one that sails", x.advise(1), 1);
        EDGES.due("of one that lies on the side", x.advise(2), 1);
        Regattas.blow(x, 0, 57);
        EDGES.due("a race", x.count(5), 1);
        Regattas.windEverywhere(x, 4);
        EDGES.due("in the last minute", x.advise(1), 1);
        x.pass(1);
        EDGES.due("behind it", x.advise(1), 1);
        ToyRegatta in = Regattas.twoRacing();
        in.pass(12);
        EDGES.due("of one that is in", in.advise(0), 1);
        in.pass(3);
        EDGES.due("of one that was in", in.advise(0), 1);
        EDGES.due("of one that is out", Regattas.outAndIn().advise(0), 1);
        EDGES.due("of one that lies behind the race", Regattas.lyingBehindARace().advise(0), 1);
        EDGES.unchanged("advise in a race", Regattas::mixed, y -> y.advise(2));
    }

    /**
     * It falls over in this minute and each tenth one from there, whatever its lead is, and goes 3 in seven minutes
     * behind it. A dry sailor stands four falls, and so 4 * 7 * 3 places.
     */
    private static void adviseOfADrySailor() {
        for (int soaked = 0; soaked <= 9; soaked++) {
            ToyRegatta x = Regattas.soakedBy(soaked);
            Regattas.windEverywhere(x, 3);
            x.setWind(x.count(0) % 10, 9);
            EDGES.due("soaked by", x.told(0, 4), soaked);
            x.pond(84);
            EDGES.due("with four falls, soaked by " + soaked, x.advise(0), 0);
            x.pond(85);
            EDGES.due("with five falls, soaked by " + soaked, x.advise(0), -1);
            EDGES.due("soaked as before", x.told(0, 4), soaked);
        }
    }

    private static void leastOfSeveral() {
        // 24 / 11 with a lead of 0 and of 1, 24 / 12 with one of 2 and of 3: 2 a minute with each of them.
        ToyRegatta x = Regattas.of(Regattas.CRAWLER);
        Regattas.windEverywhere(x, 1);
        EDGES.due("with 0 to 3", x.advise(0), 0);
        // A heel of 32 without lead; 4 a minute with a lead of 1 to 5.
        EDGES.due("with 1 to 5", Regattas.of(Regattas.TIPPY).advise(0), 1);
    }

    private static void adviseNone() {
        ToyRegatta storm = Regattas.of(new int[] {5, 0, 0});
        Regattas.windEverywhere(storm, 8);
        EDGES.due("one that falls with all", storm.advise(0), -1);
        ToyRegatta calm = Regattas.two();
        Regattas.windEverywhere(calm, 0);
        EDGES.due("without wind", calm.advise(0), -1);
        EDGES.unchanged("advise of none", () -> {
            ToyRegatta x = Regattas.two();
            Regattas.windEverywhere(x, 0);
            return x;
        }, y -> y.advise(0));
        EDGES.unchanged("advise", Regattas::two, y -> y.advise(0));
    }

    private static void adviseOfNoBoat() {
        EDGES.refused("advise(0) without boats", ToyRegatta::new, Regattas.INDEX, x -> x.advise(0));
        for (int boat : Edges.NO_BOATS_OF_TWO) {
            EDGES.refused("advise(" + boat + ")", Regattas::two, Regattas.INDEX, x -> x.advise(boat));
            EDGES.refused("advise(" + boat + ") in a race", Regattas::twoRacing, Regattas.INDEX,
                x -> x.advise(boat));
        }
        EDGES.refused("advise(8) of eight", Regattas::eight, Regattas.INDEX, x -> x.advise(8));
        EDGES.due("advise(7) of eight", Regattas.eight().advise(7), 1);
    }

    private static void means() {
        ToyRegatta x = new ToyRegatta();
        x.build(1, 0);
        EDGES.dueDouble("of one without lead", x.mean(), 0.0);
        x.ballast(0, 1);
        EDGES.dueDouble("of one", x.mean(), 1.0);
        x.build(1, 0);
        EDGES.dueDouble("1 / 2", x.mean(), 0.5);
        x.build(1, 0);
        EDGES.dueDouble("1 / 3", x.mean(), 1.0 / 3.0);
        for (int boat = 3; boat < 8; boat++) {
            x.build(1, 0);
        }
        EDGES.dueDouble("1 / 8", x.mean(), 0.125);
        for (int boat = 0; boat < 8; boat++) {
            x.ballast(boat, 9);
        }
        EDGES.dueDouble("72 / 8", x.mean(), 9.0);
        x.ballast(7, 8);
        EDGES.dueDouble("71 / 8", x.mean(), 8.875);
        EDGES.dueDouble("of boats one of which is not in the race", Regattas.mixed().mean(), 4.5);
        ToyRegatta race = Regattas.outAndIn();
        EDGES.dueDouble("of one that is out, one that is in, one that sails", race.mean(), 3.0);
        race.pass(15);
        EDGES.dueDouble("of the same behind the race", race.mean(), 3.0);
        EDGES.unchanged("mean", Regattas::mixed, ToyRegatta::mean);
    }

    private static void meanWithoutBoats() {
        ToyRegatta x = new ToyRegatta();
        EDGES.dueDouble("at first", x.mean(), 0.0);
        x.pass(90);
        EDGES.dueDouble("later", x.mean(), 0.0);
    }

    /** The same sum without an end of its numbers, cut to 64 bits at last. */
    private static long wrapped(long... numbers) {
        BigInteger d = BigInteger.valueOf(1319);
        for (long x : numbers) {
            d = d.multiply(BigInteger.valueOf(31)).add(BigInteger.valueOf(x));
        }
        return d.longValue();
    }

    private static void digestOfNothing() {
        long want = wrapped(0, 4, 0, 0, 0, 0, 0, 0, 0, 4, 4, 4, 4, 4, 4, 4, 4, 4, 4);
        EDGES.due("without boats and judges", new ToyRegatta().digest(), want);
        EDGES.due("by hand", want, 4616600883210342005L);
    }

    private static void digestWraps() {
        ToyRegatta x = new ToyRegatta();
        x.build(1, 1);
        x.setWind(0, 9);
        long want = wrapped(0, 9, 1, 0, 0, 0, 0, 0, 0, 9, 4, 4, 4, 4, 4, 4, 4, 4, 4,
            1, 1, 0, 0, 0, 158, 20, -1, -1, -1, -1, -1);
        EDGES.due("ahead of all races, with what is told as -1", x.digest(), want);
        x.judge(199);
        x.start();
        x.pass(1);
        long later = wrapped(1, 4, 1, 1, 1, 1, 1, 0, 2, 9, 4, 4, 4, 4, 4, 4, 4, 4, 4, 199,
            1, 1, 0, 0, 2, 30, 10, 0, -1, 0, 2, 1);
        EDGES.due("in a race", x.digest(), later);
        EDGES.unchanged("digest", Regattas::mixed, ToyRegatta::digest);
    }

    private static void digestOfEachNumber() {
        ToyRegatta x = Regattas.eight();
        int[] winds = FIRST_WINDS.clone();
        for (int minute = 0; minute < 10; minute++) {
            winds[minute] = 9 - minute;
            x.setWind(minute, 9 - minute);
        }
        EDGES.due("of eight boats", x.digest(), Regattas.digest(x, winds));
        x.judge(199);
        EDGES.due("with a judge", x.digest(), Regattas.digest(x, winds, 199));
        x.judge(0);
        x.judge(60);
        x.start();
        x.pass(9);
        EDGES.due("with three judges, in a race", x.digest(), Regattas.digest(x, winds, 199, 0, 60));
    }
}
