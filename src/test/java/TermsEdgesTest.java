/** The boundary cases that "What it is" and "Terms" name, up to the judges. */
public final class TermsEdgesTest {
    private static final Edges EDGES = new Edges();

    public static void main(String[] args) {
        EDGES.of("An object is used for at most 512 calls", TermsEdgesTest::manyMinutes);
        EDGES.of("An object is used for at most 512 calls after it has been made", TermsEdgesTest::manyRaces);
        EDGES.of("at most 512 calls", TermsEdgesTest::manyQuestions);
        EDGES.of("/ is cut towards 0", TermsEdgesTest::cutNumbers);
        EDGES.of("Time is told in minutes, from 0", TermsEdgesTest::timeFromZero);
        EDGES.of("It has a length, 20 to 200", TermsEdgesTest::lengths);
        EDGES.of("(60, at first)", TermsEdgesTest::firstLength);
        EDGES.of("for each of 10 minutes (the minute by the remainder of 10)", TermsEdgesTest::tableWraps);
        EDGES.of("the wind, 0 to 9", TermsEdgesTest::winds);
        EDGES.of("(4, at first)", TermsEdgesTest::firstWinds);
        EDGES.of("There are at most 8, numbered from 0 in the order of their coming", TermsEdgesTest::eightBoats);
        EDGES.of("a hull, 1 to 9", TermsEdgesTest::hulls);
        EDGES.of("a rig, 0 to 2", TermsEdgesTest::rigs);
        EDGES.of("lead, 0 (at first) to 9", TermsEdgesTest::leads);
        EDGES.of("points (0, at first)", TermsEdgesTest::firstPoints);
        EDGES.of("soaked by 0 (at first) to 9", TermsEdgesTest::soaking);
        EDGES.of("0: three times the wind", () -> pulls(0, 0, 3, 6, 9, 12, 15, 18, 21, 24, 27));
        EDGES.of("1: the wind squared, half of it (cut)", () -> pulls(1, 0, 0, 2, 4, 8, 12, 18, 24, 32, 40));
        EDGES.of("2: 5 and the wind, but 0 without wind", () -> pulls(2, 0, 6, 7, 8, 9, 10, 11, 12, 13, 14));
        EDGES.of("less 5 for each lead, and less twice the hull; at least 0", TermsEdgesTest::leastHeel);
        EDGES.of("(2 and the hull and half (cut) of the lead, added)", TermsEdgesTest::speedByLead);
        EDGES.of("at most 20", TermsEdgesTest::mostSpeed);
        EDGES.of("There are at most 3, each at a place, 0 to 199", TermsEdgesTest::threeJudges);
        EDGES.of("one sees places up to 10 away from there", TermsEdgesTest::sight);
        EDGES.of("places up to 10 away, of a judge at 0", TermsEdgesTest::sightFromTheStart);
        EDGES.of("places up to 10 away, ahead of a judge at 199", TermsEdgesTest::sightShortOfTheLastPlace);
        EDGES.of("places up to 10 away, behind a judge at 199", TermsEdgesTest::sightBeyondTheLastPlace);
        EDGES.end("TermsEdgesTest");
    }

    private static void manyMinutes() {
        ToyRegatta x = new ToyRegatta();
        x.setWind(0, 7);
        for (int call = 2; call <= 510; call++) {
            x.pass(90);
        }
        EDGES.due("the minute, by the call 511", x.count(0), 509 * 90);
        EDGES.due("its wind, by the call 512", x.count(1), 7);
    }

    private static void manyRaces() {
        ToyRegatta x = Regattas.of(Regattas.FIVE);
        for (int race = 1; race <= 254; race++) {
            EDGES.due("start " + race, x.start(), 1);
            EDGES.due("in in the race " + race, x.pass(12), 1);
        }
        EDGES.due("points, by the call 511", x.told(0, 3), 254 * 8);
        EDGES.due("races, by the call 512", x.count(4), 254);
    }

    private static void manyQuestions() {
        ToyRegatta x = Regattas.eight();
        x.start();
        for (int round = 0; round < 164; round++) {
            EDGES.due("winner", x.winner(), 0);
            EDGES.due("when", x.when(7), 12);
            EDGES.due("advise", x.advise(7), 1);
        }
        EDGES.due("winner, by the call 510", x.winner(), 0);
        EDGES.due("when, by the call 511", x.when(7), 12);
        EDGES.due("advise, by the call 512", x.advise(7), 1);
    }

    /** By the wind, for one that has this hull, rig and lead. */
    private static ToyRegatta one(int wind, int hull, int rig, int lead) {
        ToyRegatta x = new ToyRegatta();
        x.setWind(0, wind);
        x.build(hull, rig);
        x.ballast(0, lead);
        return x;
    }

    private static void cutNumbers() {
        EDGES.due("heel by half of 1", one(1, 1, 1, 0).told(0, 5), 0);
        EDGES.due("heel by half of 81", one(9, 1, 1, 0).told(0, 5), 158);
        EDGES.due("speed 48 / 5", one(4, 3, 0, 0).told(0, 6), 9);
        EDGES.due("speed 36 / 9", one(3, 7, 0, 0).told(0, 6), 4);
        EDGES.due("speed 36 / 10", one(3, 8, 0, 0).told(0, 6), 3);
    }

    private static void timeFromZero() {
        ToyRegatta x = new ToyRegatta();
        EDGES.due("the first minute", x.count(0), 0);
        x.pass(1);
        EDGES.due("the next one", x.count(0), 1);
    }

    /** A crawler goes 1 a minute by the wind 1, a racer 10 by the wind 8. */
    private static void lengths() {
        ToyRegatta least = Regattas.of(Regattas.CRAWLER);
        least.pond(20);
        least.start();
        EDGES.due("in on 19 of 20", Regattas.blow(least, 1, 19), 0);
        EDGES.due("in on 20 of 20", least.pass(1), 1);
        ToyRegatta most = Regattas.of(Regattas.RACER);
        most.pond(200);
        most.start();
        EDGES.due("in on 190 of 200", Regattas.blow(most, 8, 19), 0);
        EDGES.due("in on 200 of 200", most.pass(1), 1);
    }

    private static void firstLength() {
        ToyRegatta x = Regattas.racing(Regattas.CRAWLER);
        EDGES.due("in on 59 of 60", Regattas.blow(x, 1, 59), 0);
        EDGES.due("in on 60 of 60", x.pass(1), 1);
        EDGES.due("pond(61)", x.pond(61), 60);
    }

    private static void tableWraps() {
        ToyRegatta x = Regattas.of(Regattas.FIVE);
        for (int minute = 0; minute < 10; minute++) {
            x.setWind(minute, 9 - minute);
        }
        for (int minute = 0; minute <= 20; minute++) {
            EDGES.due("wind of the minute " + minute, x.count(1), 9 - minute % 10);
            x.pass(1);
        }
        // 3, 0, 8 and 5 places by the winds of the minutes 28 to 31.
        x.setWind(8, 1);
        x.setWind(9, 0);
        x.setWind(1, 4);
        x.pass(7);
        x.start();
        int[] places = {3, 3, 11, 16};
        for (int minute = 0; minute < places.length; minute++) {
            x.pass(1);
            EDGES.due("place behind the minute " + (28 + minute), x.about(0, 0), places[minute]);
        }
    }

    private static void winds() {
        for (int wind = 0; wind <= 9; wind++) {
            ToyRegatta x = new ToyRegatta();
            x.setWind(0, wind);
            EDGES.due("the wind", x.count(1), wind);
        }
    }

    private static void firstWinds() {
        ToyRegatta x = new ToyRegatta();
        for (int minute = 0; minute < 10; minute++) {
            EDGES.due("wind of the minute " + minute, x.count(1), 4);
            x.pass(1);
        }
    }

    private static void eightBoats() {
        ToyRegatta x = new ToyRegatta();
        for (int number = 0; number < 8; number++) {
            EDGES.due("boats", x.count(2), number);
            EDGES.due("a boat's number", x.build(number + 1, 2), number);
        }
        EDGES.due("all boats", x.count(2), 8);
        EDGES.due("hull of the first one", x.told(0, 0), 1);
        EDGES.due("hull of the last one", x.told(7, 0), 8);
        for (int boat = 0; boat < 8; boat++) {
            x.ballast(boat, 9);
        }
        EDGES.due("all of them start", x.start(), 8);
        EDGES.due("all of them come in", x.pass(60), 8);
    }

    private static void hulls() {
        EDGES.due("heel of the hull 1", one(4, 1, 0, 0).told(0, 5), 46);
        EDGES.due("heel of the hull 9", one(4, 9, 0, 0).told(0, 5), 30);
        EDGES.due("speed of the hull 1", one(4, 1, 0, 0).told(0, 6), 16);
        EDGES.due("speed of the hull 9", one(4, 9, 0, 0).told(0, 6), 4);
    }

    private static void rigs() {
        for (int rig = 0; rig <= 2; rig++) {
            EDGES.due("the rig", one(4, 1, rig, 0).told(0, 1), rig);
        }
    }

    private static void leads() {
        ToyRegatta x = new ToyRegatta();
        x.build(1, 0);
        EDGES.due("lead at first", x.told(0, 2), 0);
        EDGES.due("heel without lead", x.told(0, 5), 46);
        x.ballast(0, 9);
        EDGES.due("the most lead", x.told(0, 2), 9);
        EDGES.due("heel with the most lead", x.told(0, 5), 1);
    }

    private static void firstPoints() {
        ToyRegatta x = Regattas.of(Regattas.FIVE);
        EDGES.due("points", x.told(0, 3), 0);
        x.start();
        x.pass(12);
        EDGES.due("points of another boat", x.told(0, 3), 8);
        x.build(1, 2);
        EDGES.due("points of one that is built behind a race", x.told(1, 3), 0);
    }

    private static void soaking() {
        ToyRegatta x = Regattas.racing(Regattas.TIPPY);
        EDGES.due("soaked at first", x.told(0, 4), 0);
        x.pass(12);
        EDGES.due("soaked by four falls", x.told(0, 4), 8);
        x.pass(1);
        EDGES.due("soaked by five falls", x.told(0, 4), 9);
        x.build(1, 2);
        EDGES.due("soaked of a new sailor", x.told(1, 4), 0);
    }

    /** The pull is not told, but the heel and the speed of a boat with the hull 1 and no lead tell it. */
    private static void pulls(int rig, int... want) {
        for (int wind = 0; wind <= 9; wind++) {
            ToyRegatta x = one(wind, 1, rig, 0);
            EDGES.due("heel by the wind " + wind, x.told(0, 5), Math.max(0, 4 * want[wind] - 2));
            EDGES.due("speed by the wind " + wind, x.told(0, 6), Math.min(20, 4 * want[wind] / 3));
        }
    }

    private static void leastHeel() {
        EDGES.due("12 - 5 - 6", one(1, 3, 0, 1).told(0, 5), 1);
        EDGES.due("12 - 0 - 12", one(1, 6, 0, 0).told(0, 5), 0);
        EDGES.due("12 - 5 - 8", one(1, 4, 0, 1).told(0, 5), 0);
        EDGES.due("12 - 0 - 14", one(1, 7, 0, 0).told(0, 5), 0);
        EDGES.due("0 - 45 - 18", one(0, 9, 0, 9).told(0, 5), 0);
        EDGES.due("the most there is", one(9, 1, 1, 0).told(0, 5), 158);
    }

    private static void speedByLead() {
        int[] speeds = {16, 16, 12, 12, 9, 9, 8, 8, 6, 6};
        for (int lead = 0; lead < speeds.length; lead++) {
            EDGES.due("48 / 3 and half of " + lead, one(4, 1, 0, lead).told(0, 6), speeds[lead]);
        }
    }

    private static void mostSpeed() {
        EDGES.due("96 / 5", one(8, 3, 0, 0).told(0, 6), 19);
        EDGES.due("60 / 3", one(5, 1, 0, 0).told(0, 6), 20);
        EDGES.due("84 / 4", one(7, 2, 0, 0).told(0, 6), 20);
        EDGES.due("160 / 3", one(9, 1, 1, 0).told(0, 6), 20);
        EDGES.due("24 / 15", one(1, 9, 2, 9).told(0, 6), 1);
        EDGES.due("12 / 15", one(1, 9, 0, 9).told(0, 6), 0);
        EDGES.due("without wind", one(0, 1, 2, 0).told(0, 6), 0);
    }

    private static void threeJudges() {
        ToyRegatta x = new ToyRegatta();
        EDGES.due("judges at first", x.count(3), 0);
        EDGES.due("a judge at 0", x.judge(0), 1);
        EDGES.due("a judge at 199", x.judge(199), 2);
        EDGES.due("a third judge", x.judge(0), 3);
        EDGES.due("judges", x.count(3), 3);
        EDGES.refused("a fourth judge", TermsEdgesTest::judged, Regattas.STATE, y -> y.judge(0));
    }

    private static ToyRegatta judged() {
        ToyRegatta x = Regattas.racing(Regattas.FIVE, Regattas.FIVE);
        x.judge(0);
        x.judge(0);
        x.judge(0);
        return x;
    }

    /** Two crawlers go 1 a minute together: a minute is a place, and a place that is seen is a foul. */
    private static ToyRegatta crawlersSeenFrom(int place) {
        ToyRegatta x = Regattas.racing(Regattas.CRAWLER, Regattas.CRAWLER);
        Regattas.windEverywhere(x, 1);
        x.judge(place);
        return x;
    }

    private static void foulsBehind(ToyRegatta x, int minutes, int want) {
        x.pass(minutes);
        EDGES.due("fouls up to the place " + x.about(1, 0), x.about(1, 2), want);
    }

    private static void sight() {
        ToyRegatta x = crawlersSeenFrom(30);
        foulsBehind(x, 19, 0);
        foulsBehind(x, 1, 1);
        foulsBehind(x, 20, 21);
        foulsBehind(x, 1, 21);
    }

    private static void sightFromTheStart() {
        ToyRegatta x = crawlersSeenFrom(0);
        foulsBehind(x, 10, 10);
        foulsBehind(x, 1, 10);
        foulsBehind(crawlersSeenFrom(11), 1, 1);
        ToyRegatta later = crawlersSeenFrom(12);
        foulsBehind(later, 1, 0);
        foulsBehind(later, 1, 1);
    }

    /** Two racers that go 10 a minute for some minutes, and then 11 for some. */
    private static ToyRegatta racersSeenFromTheLastPlace(int minutesOf10, int minutesOf11) {
        ToyRegatta x = Regattas.of(Regattas.RACER, Regattas.RACER);
        x.pond(200);
        x.judge(199);
        x.start();
        if (minutesOf10 > 0) {
            Regattas.blow(x, 8, minutesOf10);
        }
        Regattas.blow(x, 9, minutesOf11);
        return x;
    }

    private static void sightShortOfTheLastPlace() {
        ToyRegatta unseen = racersSeenFromTheLastPlace(10, 8);
        EDGES.dueAbout(unseen, 1, 188, -1, 0);
        ToyRegatta seen = racersSeenFromTheLastPlace(9, 9);
        EDGES.dueAbout(seen, 1, 189, -1, 1);
    }

    private static void sightBeyondTheLastPlace() {
        ToyRegatta seen = racersSeenFromTheLastPlace(0, 19);
        EDGES.dueAbout(seen, 1, 209, 19, 2);
        ToyRegatta unseen = racersSeenFromTheLastPlace(10, 10);
        EDGES.dueAbout(unseen, 1, 210, 20, 1);
    }
}
