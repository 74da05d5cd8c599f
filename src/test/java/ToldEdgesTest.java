import java.util.function.Supplier;

/** The boundary cases that the promises 9 to 13 name: told, about, count, ahead, champion. */
public final class ToldEdgesTest {
    private static final Edges EDGES = new Edges();

    public static void main(String[] args) {
        EDGES.of("0 its hull, 1 its rig, 2 its lead, 3 its points", ToldEdgesTest::leastAndMostTold);
        EDGES.of("5 its heel now, 6 its speed now", ToldEdgesTest::toldNow);
        EDGES.of("5 its heel now, 6 its speed now", ToldEdgesTest::toldNowHoweverItIs);
        EDGES.of("told: if there is no such boat", ToldEdgesTest::toldOfNoBoat);
        EDGES.of("or what is not 0 to 6", ToldEdgesTest::toldOfNothing);
        EDGES.of("Tells of the race, or, without one, of the latest one", ToldEdgesTest::latestRace);
        EDGES.of("1 its time, -1 if it is not in (or was not)", ToldEdgesTest::noTime);
        EDGES.of("it still lies on the side (0 of one that is out", ToldEdgesTest::lyingOfOneOut);
        EDGES.of("behind the end of the race as many as were left)", ToldEdgesTest::lyingBehindTheEnd);
        EDGES.of("0 it was not in it (then 0, -1, 0 and 0 are told", ToldEdgesTest::notInIt);
        EDGES.of("1 it sails (or was not in at the end), 2 it is in, 3 it is out", ToldEdgesTest::howItIs);
        EDGES.of("-1 if there was no race yet", ToldEdgesTest::noRaceYet);
        EDGES.of("about: if there is no such boat", ToldEdgesTest::aboutNoBoat);
        EDGES.of("or what is not 0 to 4", ToldEdgesTest::aboutNothing);
        EDGES.of("0 the minute, 1 the wind, 2 boats, 3 judges", ToldEdgesTest::leastAndMostCounted);
        EDGES.of("4 races that were started", ToldEdgesTest::races);
        EDGES.of("5 1 if there is a race, else 0", ToldEdgesTest::aRace);
        EDGES.of("6 boats that are still sailing in it", ToldEdgesTest::sailing);
        EDGES.of("7 all points, added", ToldEdgesTest::allPoints);
        EDGES.of("8 how much all sailors are soaked, added", ToldEdgesTest::allSoaked);
        EDGES.of("if what is not 0 to 8", ToldEdgesTest::countOfNothing);
        EDGES.of("ahead: the boat with the greatest place", ToldEdgesTest::greatestPlace);
        EDGES.of("of those that sail or are in", ToldEdgesTest::aheadOfOthers);
        EDGES.of("ahead: of several the one with the smallest number", ToldEdgesTest::aheadOfSeveral);
        EDGES.of("-1 if there is no race", ToldEdgesTest::aheadWithoutARace);
        EDGES.of("champion: the boat with the most points", ToldEdgesTest::mostPoints);
        EDGES.of("of several that whose sailor is soaked the least", ToldEdgesTest::leastSoaked);
        EDGES.of("then the one with the smallest number", ToldEdgesTest::smallestNumber);
        EDGES.of("-1 without boats", ToldEdgesTest::championWithoutBoats);
        EDGES.end("ToldEdgesTest");
    }

    private static void leastAndMostTold() {
        ToyRegatta x = new ToyRegatta();
        x.build(1, 0);
        x.build(9, 2);
        x.ballast(1, 9);
        int[] least = {1, 0, 0, 0, 0};
        int[] most = {9, 2, 9, 0, 0};
        for (int what = 0; what < least.length; what++) {
            EDGES.due("the least told " + what, x.told(0, what), least[what]);
            EDGES.due("the most told " + what, x.told(1, what), most[what]);
        }
        ToyRegatta lying = Regattas.lyingBehindARace();
        int[] behind = {8, 0, 0, 0, 2};
        for (int what = 0; what < behind.length; what++) {
            EDGES.due("on the side behind a race, told " + what, lying.told(0, what), behind[what]);
        }
    }

    private static void toldNow() {
        ToyRegatta x = Regattas.of(Regattas.THREE, Regattas.FOUR);
        x.setWind(1, 0);
        EDGES.due("heel", x.told(1, 5), 30);
        EDGES.due("speed", x.told(1, 6), 4);
        x.pass(1);
        EDGES.due("heel a minute later", x.told(1, 5), 0);
        EDGES.due("speed a minute later", x.told(1, 6), 0);
        x.setWind(1, 9);
        EDGES.due("heel by more wind", x.told(1, 5), 90);
        EDGES.due("speed by more wind", x.told(1, 6), 9);
        x.pass(9);
        EDGES.due("heel in the minute 10", x.told(1, 5), 30);
        x.ballast(1, 6);
        EDGES.due("heel with lead", x.told(1, 5), 0);
        EDGES.due("speed with lead", x.told(1, 6), 3);
    }

    /** Neither the race nor how a boat is in it is among what the terms make heel and speed of. */
    private static void toldNowHoweverItIs() {
        ToyRegatta x = Regattas.mixed();
        dueNow("not in the race", x, 0, 32, 4);
        dueNow("sailing", x, 1, 0, 5);
        dueNow("on the side", x, 2, 32, 4);
        dueNow("at the start", Regattas.twoRacing(), 1, 30, 4);
        ToyRegatta y = Regattas.outAndIn();
        dueNow("out", y, 0, 32, 4);
        dueNow("in", y, 1, 30, 4);
        y.pass(15);
        EDGES.due("a race", y.count(5), 0);
        dueNow("that was out", y, 0, 32, 4);
        dueNow("that was in", y, 1, 30, 4);
        y.setWind(0, 0);
        dueNow("that was in, without wind", y, 1, 0, 0);
        ToyRegatta lying = Regattas.lyingBehindARace();
        EDGES.due("minutes on the side", lying.about(0, 3), 2);
        dueNow("on the side behind the race", lying, 0, 32, 4);
    }

    private static void dueNow(String how, ToyRegatta x, int boat, int heel, int speed) {
        EDGES.due("heel of one " + how, x.told(boat, 5), heel);
        EDGES.due("speed of one " + how, x.told(boat, 6), speed);
    }

    private static void toldOfNoBoat() {
        EDGES.refused("told(0, 0) without boats", ToyRegatta::new, Regattas.INDEX, x -> x.told(0, 0));
        for (int boat : Edges.NO_BOATS_OF_TWO) {
            for (int what : new int[] {0, 6, -1, 7}) {
                EDGES.refused("told(" + boat + ", " + what + ")", Regattas::two, Regattas.INDEX,
                    x -> x.told(boat, what));
            }
        }
        EDGES.refused("told(8, 0) of eight", Regattas::eight, Regattas.INDEX,
            x -> x.told(8, 0));
        EDGES.due("told(7, 0) of eight", Regattas.eight().told(7, 0), 1);
    }

    private static void toldOfNothing() {
        for (int what : new int[] {-1, 7, Edges.LEAST_INT, Edges.MOST_INT}) {
            for (int boat : new int[] {0, 1}) {
                EDGES.refused("told(" + boat + ", " + what + ")", Regattas::twoRacing, Regattas.INDEX,
                    x -> x.told(boat, what));
            }
        }
    }

    private static void latestRace() {
        ToyRegatta x = Regattas.two();
        x.judge(60);
        x.start();
        x.pass(90);
        EDGES.dueAbout(x, 0, 60, 12, 0, 0, 2);
        EDGES.dueAbout(x, 1, 60, 15, 0, 0, 2);
        Regattas.windEverywhere(x, 0);
        x.start();
        EDGES.dueAbout(x, 0, 0, -1, 0, 0, 1);
        x.pass(90);
        EDGES.dueAbout(x, 0, 0, -1, 0, 0, 1);
    }

    private static void noTime() {
        ToyRegatta x = Regattas.racing(Regattas.FIVE, Regattas.TIPPY, Regattas.CRAWLER);
        EDGES.due("time at the start", x.about(0, 1), -1);
        x.pass(11);
        EDGES.due("time ahead of coming in", x.about(0, 1), -1);
        x.pass(1);
        EDGES.due("time of one that is in", x.about(0, 1), 12);
        x.pass(1);
        EDGES.due("time of one that is out", x.about(1, 1), -1);
        Regattas.blow(x, 0, 60);
        EDGES.due("time of one that was not in", x.about(2, 1), -1);
        EDGES.due("time of one that was in", x.about(0, 1), 12);
        EDGES.due("time of one that was out", x.about(1, 1), -1);
    }

    private static void lyingOfOneOut() {
        ToyRegatta x = Regattas.racing(Regattas.TIPPY, Regattas.FOUR);
        x.pass(10);
        EDGES.dueAbout(x, 0, 0, -1, 0, 2, 1);
        x.pass(2);
        EDGES.dueAbout(x, 0, 0, -1, 0, 0, 1);
        x.pass(1);
        EDGES.dueAbout(x, 0, 0, -1, 0, 0, 3);
        x.pass(2);
        EDGES.dueAbout(x, 0, 0, -1, 0, 0, 3);
    }

    /** It falls over in one of the minutes 57 to 59 of the race, and lies at its end, or has lain. */
    private static void lyingBehindTheEnd() {
        for (int left = 0; left <= 2; left++) {
            ToyRegatta x = Regattas.racing(Regattas.TIPPY);
            Regattas.blow(x, 0, 57 + left);
            Regattas.blow(x, 4, 1);
            if (left < 2) {
                Regattas.blow(x, 0, 2 - left);
            }
            EDGES.due("a race", x.count(5), 0);
            EDGES.dueAbout(x, 0, 0, -1, 0, left, 1);
            x.pass(90);
            EDGES.dueAbout(x, 0, 0, -1, 0, left, 1);
        }
    }

    private static void notInIt() {
        ToyRegatta x = Regattas.soakedBy(9);
        Regattas.add(x, Regattas.FIVE);
        EDGES.dueAbout(x, 0, 0, -1, 0, 0, 3);
        EDGES.dueAbout(x, 1, 0, -1, 0, 0, 0);
        x.start();
        EDGES.dueAbout(x, 0, 0, -1, 0, 0, 0);
        x.pass(90);
        EDGES.dueAbout(x, 0, 0, -1, 0, 0, 0);
        EDGES.dueAbout(x, 1, 60, 12, 0, 0, 2);

        // The place and the fouls of the race before, in which it was out, are not told any more.
        ToyRegatta before = Regattas.racing(Regattas.TIPPY, Regattas.TIPPY, Regattas.CRAWLER);
        before.judge(10);
        Regattas.blow(before, 3, 3);
        Regattas.blow(before, 4, 13);
        Regattas.blow(before, 0, 44);
        EDGES.dueAbout(before, 1, 9, -1, 3, 0, 3);
        before.start();
        EDGES.dueAbout(before, 1, 0, -1, 0, 0, 0);
    }

    private static void howItIs() {
        ToyRegatta x = Regattas.racing(Regattas.TIPPY, Regattas.FIVE, Regattas.CRAWLER);
        howTheyAre(x, "at the start", 1, 1, 1);
        x.pass(1);
        howTheyAre(x, "with one on the side", 1, 1, 1);
        x.pass(10);
        howTheyAre(x, "ahead of coming in", 1, 1, 1);
        x.pass(1);
        howTheyAre(x, "with one in", 1, 2, 1);
        x.pass(1);
        howTheyAre(x, "with one out", 3, 2, 1);
        Regattas.blow(x, 0, 46);
        howTheyAre(x, "in the last minute", 3, 2, 1);
        x.pass(1);
        howTheyAre(x, "at the end", 3, 2, 1);
        x.pass(90);
        howTheyAre(x, "later", 3, 2, 1);
    }

    private static void howTheyAre(ToyRegatta x, String when, int... want) {
        for (int boat = 0; boat < want.length; boat++) {
            EDGES.due("how " + boat + " is " + when, x.about(boat, 4), want[boat]);
        }
    }

    private static void noRaceYet() {
        ToyRegatta x = Regattas.two();
        EDGES.dueAbout(x, 0, -1, -1, -1, -1, -1);
        x.pass(90);
        EDGES.dueAbout(x, 1, -1, -1, -1, -1, -1);
        x.start();
        EDGES.dueAbout(x, 1, 0, -1, 0, 0, 1);
    }

    private static void aboutNoBoat() {
        EDGES.refused("about(0, 0) without boats", ToyRegatta::new, Regattas.INDEX, x -> x.about(0, 0));
        for (int boat : Edges.NO_BOATS_OF_TWO) {
            for (int what : new int[] {0, 4, -1, 5}) {
                String call = "about(" + boat + ", " + what + ")";
                EDGES.refused(call + " ahead of all races", Regattas::two, Regattas.INDEX,
                    x -> x.about(boat, what));
                EDGES.refused(call, Regattas::twoRacing, Regattas.INDEX, x -> x.about(boat, what));
            }
        }
        EDGES.refused("about(8, 0) of eight", Regattas::eight, Regattas.INDEX,
            x -> x.about(8, 0));
        EDGES.due("about(7, 0) of eight", Regattas.eight().about(7, 0), -1);
    }

    private static void aboutNothing() {
        for (int what : new int[] {-1, 5, Edges.LEAST_INT, Edges.MOST_INT}) {
            for (int boat : new int[] {0, 1}) {
                String call = "about(" + boat + ", " + what + ")";
                EDGES.refused(call + " ahead of all races", Regattas::two, Regattas.INDEX,
                    x -> x.about(boat, what));
                EDGES.refused(call, Regattas::twoRacing, Regattas.INDEX, x -> x.about(boat, what));
            }
        }
    }

    private static void leastAndMostCounted() {
        ToyRegatta x = new ToyRegatta();
        x.setWind(9, 0);
        x.setWind(0, 9);
        int[] first = {0, 9, 0, 0};
        for (int what = 0; what < first.length; what++) {
            EDGES.due("at first " + what, x.count(what), first[what]);
        }
        for (int boat = 0; boat < 8; boat++) {
            x.build(1, 0);
        }
        x.judge(0);
        x.judge(199);
        x.judge(1);
        x.pass(9);
        int[] last = {9, 0, 8, 3};
        for (int what = 0; what < last.length; what++) {
            EDGES.due("at last " + what, x.count(what), last[what]);
        }
        x.pass(1);
        EDGES.due("the minute 10", x.count(0), 10);
        EDGES.due("the wind of the minute 10", x.count(1), 9);
    }

    private static void races() {
        ToyRegatta x = Regattas.two();
        EDGES.due("ahead of all races", x.count(4), 0);
        x.start();
        EDGES.due("in the first one", x.count(4), 1);
        x.pass(15);
        EDGES.due("behind it", x.count(4), 1);
        x.start();
        EDGES.due("in the second one", x.count(4), 2);
        EDGES.refused("a start in a race", Regattas::twoRacing, Regattas.STATE, ToyRegatta::start);
    }

    private static void aRace() {
        ToyRegatta x = Regattas.two();
        EDGES.due("ahead of it", x.count(5), 0);
        x.start();
        EDGES.due("at its start", x.count(5), 1);
        x.pass(14);
        EDGES.due("ahead of its last minute", x.count(5), 1);
        x.pass(1);
        EDGES.due("behind it", x.count(5), 0);
    }

    private static void sailing() {
        ToyRegatta x = Regattas.of(Regattas.FIVE, Regattas.TIPPY, Regattas.CRAWLER);
        EDGES.due("ahead of all races", x.count(6), 0);
        x.start();
        EDGES.due("at the start", x.count(6), 3);
        x.pass(11);
        EDGES.due("with one on the side", x.count(6), 3);
        x.pass(1);
        EDGES.due("with one in", x.count(6), 2);
        x.pass(1);
        EDGES.due("with one out", x.count(6), 1);
        Regattas.blow(x, 0, 46);
        EDGES.due("in the last minute", x.count(6), 1);
        x.pass(1);
        EDGES.due("behind the race", x.count(6), 0);
        ToyRegatta eight = Regattas.eight();
        eight.start();
        EDGES.due("eight", eight.count(6), 8);
        ToyRegatta absent = Regattas.soakedBy(9);
        Regattas.add(absent, Regattas.FIVE);
        absent.start();
        EDGES.due("without one that is not in it", absent.count(6), 1);
    }

    private static void allPoints() {
        ToyRegatta x = Regattas.eight();
        EDGES.due("at first", x.count(7), 0);
        x.start();
        x.pass(11);
        EDGES.due("in a race", x.count(7), 0);
        x.pass(1);
        EDGES.due("behind it", x.count(7), 8 + 5 + 3 + 5);
        x.start();
        x.pass(12);
        EDGES.due("behind one more", x.count(7), 2 * (8 + 5 + 3 + 5));
        ToyRegatta one = Regattas.racing(Regattas.FIVE);
        one.pass(12);
        EDGES.due("of one boat", one.count(7), 8);
    }

    private static void allSoaked() {
        ToyRegatta x = Regattas.fleet(8, Regattas.TIPPY);
        EDGES.due("at first", x.count(8), 0);
        x.start();
        x.pass(1);
        EDGES.due("behind a fall of each", x.count(8), 16);
        x.pass(12);
        EDGES.due("at the most", x.count(8), 72);
        EDGES.due("of one boat", Regattas.soakedBy(9).count(8), 9);
        EDGES.due("of a dry one", Regattas.soakedBy(0).count(8), 0);
    }

    private static void countOfNothing() {
        for (int what : new int[] {-1, 9, Edges.LEAST_INT, Edges.MOST_INT}) {
            EDGES.refused("count(" + what + ") of nothing", ToyRegatta::new, Regattas.INDEX, x -> x.count(what));
            EDGES.refused("count(" + what + ")", Regattas::twoRacing, Regattas.INDEX, x -> x.count(what));
        }
    }

    private static void greatestPlace() {
        ToyRegatta x = Regattas.racing(Regattas.THREE, Regattas.FOUR, Regattas.FIVE);
        x.pass(1);
        EDGES.due("the last number", x.ahead(), 2);
        ToyRegatta turned = Regattas.racing(Regattas.FIVE, Regattas.FOUR);
        turned.pass(1);
        EDGES.due("the first number", turned.ahead(), 0);
        EDGES.unchanged("ahead", Regattas::twoRacing, ToyRegatta::ahead);
    }

    private static void aheadOfOthers() {
        ToyRegatta absent = Regattas.soakedBy(9);
        Regattas.add(absent, Regattas.FIVE);
        absent.start();
        EDGES.due("at the start beside one that is not in it", absent.ahead(), 1);
        ToyRegatta in = Regattas.racing(Regattas.FOUR, Regattas.FIVE);
        in.pass(14);
        EDGES.due("one that is in", in.ahead(), 1);
        // The boat 0 is out at the place 9, when the boat 1 is at 6.
        ToyRegatta out = Regattas.soakedBy(8);
        Regattas.add(out, Regattas.CRAWLER);
        out.start();
        Regattas.blow(out, 3, 3);
        EDGES.due("places", out.about(0, 0) * 10 + out.about(1, 0), 96);
        EDGES.due("one that sails", out.ahead(), 0);
        Regattas.blow(out, 4, 1);
        EDGES.dueAbout(out, 0, 9, -1, 0, 0, 3);
        EDGES.due("one that is out", out.ahead(), 1);
        ToyRegatta lies = Regattas.racing(Regattas.CRAWLER, Regattas.TIPPY);
        Regattas.blow(lies, 3, 3);
        Regattas.blow(lies, 4, 1);
        EDGES.due("one that lies on the side", lies.ahead(), 1);
    }

    private static void aheadOfSeveral() {
        ToyRegatta x = Regattas.eight();
        x.start();
        EDGES.due("at the start", x.ahead(), 0);
        x.pass(1);
        EDGES.due("at one place", x.ahead(), 0);
        ToyRegatta three = Regattas.racing(Regattas.FOUR, Regattas.FIVE, Regattas.FIVE);
        three.pass(1);
        EDGES.due("of the last two", three.ahead(), 1);
    }

    private static void aheadWithoutARace() {
        EDGES.due("without boats", new ToyRegatta().ahead(), -1);
        ToyRegatta x = Regattas.two();
        EDGES.due("ahead of all races", x.ahead(), -1);
        x.start();
        EDGES.due("at the start", x.ahead(), 0);
        x.pass(14);
        EDGES.due("in the last minute", x.ahead(), 0);
        x.pass(1);
        EDGES.due("behind the race", x.ahead(), -1);
    }

    private static void mostPoints() {
        ToyRegatta x = Regattas.of(Regattas.FOUR, Regattas.FIVE);
        EDGES.due("ahead of all races", x.champion(), 0);
        x.start();
        x.pass(14);
        EDGES.due("ahead of the end", x.champion(), 0);
        x.pass(1);
        EDGES.due("behind the race", x.champion(), 1);
        // More points count more than being dry: the boat 0 of 8 points is soaked by 9, the boat 1 has none.
        ToyRegatta wet = Regattas.racing(Regattas.FIVE);
        wet.pass(12);
        wet.ballast(0, 0);
        wet.start();
        wet.pass(13);
        Regattas.add(wet, Regattas.FIVE);
        EDGES.due("soaked", wet.told(0, 4), 9);
        EDGES.due("points though soaked", wet.champion(), 0);
        EDGES.unchanged("champion", Regattas::twoRacing, ToyRegatta::champion);
    }

    private static void leastSoaked() {
        ToyRegatta x = Regattas.soakedBy(1);
        Regattas.add(x, Regattas.FIVE);
        EDGES.due("soaked by 1 and by 0", x.champion(), 1);
        x.pass(5);
        EDGES.due("both are dry", x.champion(), 0);
        ToyRegatta three = Regattas.racing(Regattas.TIPPY, Regattas.TIPPY, Regattas.FOUR);
        three.pass(1);
        EDGES.due("soaked by 2, 2 and 0", three.champion(), 2);
    }

    private static void smallestNumber() {
        EDGES.due("of eight", Regattas.eight().champion(), 0);
        EDGES.due("of one", Regattas.of(Regattas.FIVE).champion(), 0);
        ToyRegatta x = Regattas.soakedBy(1);
        Regattas.add(x, Regattas.FIVE);
        Regattas.add(x, Regattas.FIVE);
        EDGES.due("of the last two", x.champion(), 1);
        ToyRegatta wet = Regattas.racing(Regattas.TIPPY, Regattas.TIPPY);
        wet.pass(1);
        EDGES.due("of two that are soaked", wet.champion(), 0);
    }

    private static void championWithoutBoats() {
        Supplier<ToyRegatta> later = () -> {
            ToyRegatta x = new ToyRegatta();
            x.pass(90);
            return x;
        };
        EDGES.due("at first", new ToyRegatta().champion(), -1);
        EDGES.due("later", later.get().champion(), -1);
        ToyRegatta one = later.get();
        one.build(9, 2);
        EDGES.due("with a boat", one.champion(), 0);
    }
}
