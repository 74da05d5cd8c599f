/** The boundary cases of a race that "Terms" names: its start, the four steps of its minute, its end, its points. */
public final class MinuteEdgesTest {
    private static final Edges EDGES = new Edges();

    public static void main(String[] args) {
        EDGES.of("It is started (none is, at first)", MinuteEdgesTest::noRaceAtFirst);
        EDGES.of("All boats whose sailors are soaked by less than 9 are in it", MinuteEdgesTest::soakedAtTheStart);
        EDGES.of("start at the place 0 in the minute of the start", MinuteEdgesTest::placeOfTheStart);
        EDGES.of("it lies there for 2 minutes behind the one in which it fell over", MinuteEdgesTest::lying);
        EDGES.of("Another one whose heel by the wind of this minute is more than 30", MinuteEdgesTest::heelToFall);
        EDGES.of("its sailor is soaked by 2 more (at most 9)", MinuteEdgesTest::soakedByAFall);
        EDGES.of("with a soaking of 9 the boat is out of the race", MinuteEdgesTest::out);
        EDGES.of("Any other one goes on by its speed (also by 0)", MinuteEdgesTest::goingOnByNothing);
        EDGES.of("its place is as it comes, also beyond the length", MinuteEdgesTest::beyondTheLength);
        EDGES.of("neither in nor out ahead of this", MinuteEdgesTest::inOrOutAhead);
        EDGES.of("and that went on in this minute", MinuteEdgesTest::lyingAtOnePlace);
        EDGES.of("at one place (of 1 and more)", MinuteEdgesTest::leastPlaceOfAFoul);
        EDGES.of("if a judge sees this place", MinuteEdgesTest::noneAndThreeJudges);
        EDGES.of("all of them but the one with the smallest number have a foul more", MinuteEdgesTest::eightFoul);
        EDGES.of("a place as great as the length of the pond", MinuteEdgesTest::justTheLength);
        EDGES.of("or greater, are in", MinuteEdgesTest::moreThanTheLength);
        EDGES.of("in minutes from the start on (1 for the first minute)", MinuteEdgesTest::timeFromTheStart);
        EDGES.of("In minutes that can be divided by 5", MinuteEdgesTest::dryingMinutes);
        EDGES.of("sailors whose boats were not in the race from its start on", MinuteEdgesTest::dryInARace);
        EDGES.of("The race is over behind a minute", MinuteEdgesTest::dryInTheLastMinute);
        EDGES.of("(all, if there is none)", MinuteEdgesTest::dryWithoutARace);
        EDGES.of("are soaked by 1 less (at least 0)", MinuteEdgesTest::dryAtLast);
        EDGES.of("Then the minute is 1 greater. Both also without a race", MinuteEdgesTest::minutesGoBy);
        EDGES.of("a minute in which all boats in it are in or out", MinuteEdgesTest::overWhenAllAreInOrOut);
        EDGES.of("or the 60th one", MinuteEdgesTest::overBehind60);
        EDGES.of("Then points are given", MinuteEdgesTest::pointsAtTheEnd);
        EDGES.of("boats that are in", MinuteEdgesTest::noPointsForOthers);
        EDGES.of("by their times and 3 for each foul, added", MinuteEdgesTest::foulsAsMinutes);
        EDGES.of("(of several the one with the smaller number)", MinuteEdgesTest::oneTime);
        EDGES.of("8 to the first one, 5 to the second, 3 to the third, 1 to each other one", MinuteEdgesTest::eightIn);
        EDGES.end("MinuteEdgesTest");
    }

    private static void noRaceAtFirst() {
        ToyRegatta x = Regattas.of(Regattas.FIVE);
        EDGES.due("a race", x.count(5), 0);
        EDGES.due("pass(90)", x.pass(90), 0);
        EDGES.due("a race later", x.count(5), 0);
        EDGES.due("place", x.about(0, 0), -1);
    }

    private static void soakedAtTheStart() {
        ToyRegatta eight = Regattas.soakedBy(8);
        EDGES.due("soaked by", eight.told(0, 4), 8);
        EDGES.due("start", eight.start(), 1);
        EDGES.due("how it is", eight.about(0, 4), 1);
        ToyRegatta nine = Regattas.soakedBy(9);
        Regattas.add(nine, Regattas.FIVE);
        EDGES.due("soaked by", nine.told(0, 4), 9);
        EDGES.due("start", nine.start(), 1);
        EDGES.due("how the soaked one is", nine.about(0, 4), 0);
        EDGES.due("how the dry one is", nine.about(1, 4), 1);
    }

    private static void placeOfTheStart() {
        ToyRegatta x = Regattas.of(Regattas.FIVE);
        Regattas.windEverywhere(x, 0);
        x.setWind(7, 9);
        x.pass(7);
        x.start();
        EDGES.due("place", x.about(0, 0), 0);
        EDGES.due("minute", x.count(0), 7);
        x.pass(1);
        EDGES.due("place by the wind of this minute", x.about(0, 0), 8);
        x.pass(59);
        x.start();
        EDGES.due("place at the next start", x.about(0, 0), 0);
    }

    private static void lying() {
        ToyRegatta x = Regattas.racing(Regattas.TIPPY);
        Regattas.blow(x, 4, 1);
        EDGES.dueAbout(x, 0, 0, -1, 0, 2, 1);
        Regattas.blow(x, 3, 1);
        EDGES.dueAbout(x, 0, 0, -1, 0, 1, 1);
        x.pass(1);
        EDGES.dueAbout(x, 0, 0, -1, 0, 0, 1);
        x.pass(1);
        EDGES.dueAbout(x, 0, 3, -1, 0, 0, 1);

        ToyRegatta again = Regattas.racing(Regattas.TIPPY);
        again.pass(3);
        EDGES.due("soaked while it lies", again.told(0, 4), 2);
        again.pass(1);
        EDGES.due("soaked by the next fall", again.told(0, 4), 4);
    }

    private static void heelToFall() {
        // Hull, rig, lead, the heel by the wind 4, and the place behind a minute of it.
        int[][] rows = {{7, 0, 1, 29, 5}, {9, 0, 0, 30, 4}, {6, 0, 1, 31, 0}};
        for (int[] row : rows) {
            ToyRegatta x = Regattas.racing(row);
            EDGES.due("heel", x.told(0, 5), row[3]);
            x.pass(1);
            EDGES.due("place with a heel of " + row[3], x.about(0, 0), row[4]);
            EDGES.due("soaked with a heel of " + row[3], x.told(0, 4), row[3] > 30 ? 2 : 0);
        }
        ToyRegatta calm = Regattas.of(Regattas.TIPPY);
        calm.setWind(2, 3);
        calm.pass(2);
        calm.start();
        calm.pass(1);
        EDGES.due("soaked by the wind of just this minute", calm.told(0, 4), 0);
        calm.pass(1);
        EDGES.due("soaked by the wind of the next one", calm.told(0, 4), 2);
    }

    private static void soakedByAFall() {
        int[] behindAFall = {2, 3, 4, 5, 6, 7, 8, 9, 9};
        for (int soaked = 0; soaked < behindAFall.length; soaked++) {
            ToyRegatta x = Regattas.soakedBy(soaked);
            EDGES.due("soaked by", x.told(0, 4), soaked);
            x.start();
            x.pass(1);
            EDGES.due("soaked behind a fall with " + soaked, x.told(0, 4), behindAFall[soaked]);
        }
    }

    private static void out() {
        for (int soaked = 6; soaked <= 8; soaked++) {
            ToyRegatta x = Regattas.soakedBy(soaked);
            x.start();
            x.pass(1);
            boolean out = soaked >= 7;
            EDGES.dueAbout(x, 0, 0, -1, 0, out ? 0 : 2, out ? 3 : 1);
        }
    }

    private static void goingOnByNothing() {
        ToyRegatta x = Regattas.racing(Regattas.CRAWLER, Regattas.CRAWLER);
        x.judge(0);
        Regattas.blow(x, 1, 1);
        EDGES.due("a foul at the place 1", x.about(1, 2), 1);
        Regattas.blow(x, 0, 1);
        EDGES.due("place", x.about(1, 0), 1);
        EDGES.due("a foul of those that go on by 0", x.about(1, 2), 2);
    }

    private static void beyondTheLength() {
        ToyRegatta x = Regattas.of(Regattas.RACER);
        x.pond(200);
        x.start();
        Regattas.blow(x, 9, 18);
        EDGES.due("place ahead of the length", x.about(0, 0), 198);
        x.pass(1);
        EDGES.due("place beyond the length", x.about(0, 0), 209);
        x.pass(1);
        EDGES.due("place of one that is in", x.about(0, 0), 209);
    }

    private static void inOrOutAhead() {
        ToyRegatta in = Regattas.racing(Regattas.FIVE, Regattas.FOUR, Regattas.FIVE, Regattas.THREE);
        in.judge(70);
        in.pass(12);
        EDGES.due("a foul of one that comes in in this minute", in.about(2, 2), 1);
        in.pass(3);
        EDGES.due("place of one that comes in later", in.about(1, 0), 60);
        EDGES.due("fouls of it", in.about(1, 2), 0);
        EDGES.due("fouls of one that is in", in.about(2, 2), 1);

        // The boat 0 is out at the place 4, in the minute in which the boats 1 and 2 come there.
        ToyRegatta out = Regattas.soakedBy(8);
        Regattas.add(out, Regattas.CRAWLER);
        Regattas.add(out, Regattas.CRAWLER);
        out.start();
        Regattas.blow(out, 2, 2);
        out.judge(14);
        Regattas.blow(out, 4, 1);
        EDGES.dueAbout(out, 0, 4, -1, 0, 0, 3);
        EDGES.dueAbout(out, 1, 4, -1, 0, 0, 1);
        EDGES.dueAbout(out, 2, 4, -1, 1, 0, 1);
        Regattas.blow(out, 0, 3);
        EDGES.due("fouls beside one that is out", out.about(1, 2), 0);
        EDGES.due("fouls of the next one", out.about(2, 2), 4);
    }

    /** By the winds 2, 2 and 4 the tippy boat goes 2, 2 and falls; the crawlers go 1, 1 and 2: all are at 4 then. */
    private static void lyingAtOnePlace() {
        ToyRegatta x = Regattas.racing(Regattas.TIPPY, Regattas.CRAWLER, Regattas.CRAWLER);
        ToyRegatta last = Regattas.racing(Regattas.CRAWLER, Regattas.CRAWLER, Regattas.TIPPY);
        Regattas.blow(x, 2, 2);
        Regattas.blow(last, 2, 2);
        x.judge(14);
        last.judge(14);
        Regattas.blow(x, 4, 1);
        Regattas.blow(last, 4, 1);
        for (int minute = 1; minute <= 3; minute++) {
            EDGES.due("places", x.about(0, 0) * 100 + x.about(1, 0) * 10 + x.about(2, 0), 444);
            EDGES.due("fouls behind one that lies", x.about(1, 2), 0);
            EDGES.due("fouls behind one that goes on", x.about(2, 2), minute);
            EDGES.due("fouls of one that lies", last.about(2, 2), 0);
            Regattas.blow(x, 0, 1);
            Regattas.blow(last, 0, 1);
        }
        EDGES.due("a foul when all go on", x.about(1, 2), 1);
        EDGES.due("a foul when the last one goes on", last.about(2, 2), 1);
    }

    private static void leastPlaceOfAFoul() {
        ToyRegatta x = Regattas.racing(Regattas.CRAWLER, Regattas.CRAWLER);
        x.judge(0);
        Regattas.blow(x, 0, 1);
        EDGES.due("fouls at the place 0", x.about(1, 2), 0);
        Regattas.blow(x, 1, 1);
        EDGES.due("place", x.about(1, 0), 1);
        EDGES.due("fouls at the place 1", x.about(1, 2), 1);
    }

    private static void noneAndThreeJudges() {
        ToyRegatta x = Regattas.racing(Regattas.CRAWLER, Regattas.CRAWLER);
        Regattas.blow(x, 1, 5);
        EDGES.due("fouls without judges", x.about(1, 2), 0);
        x.judge(0);
        x.judge(5);
        x.judge(0);
        x.pass(1);
        EDGES.due("fouls that three judges see", x.about(1, 2), 1);
        // The last judge alone sees the place 15.
        ToyRegatta third = Regattas.racing(Regattas.FIVE, Regattas.FIVE);
        third.judge(100);
        third.judge(120);
        third.judge(25);
        third.pass(3);
        EDGES.due("fouls that the third one sees", third.about(1, 2), 1);
    }

    private static void eightFoul() {
        ToyRegatta x = Regattas.fleet(8, Regattas.CRAWLER);
        x.judge(1);
        x.start();
        Regattas.blow(x, 1, 1);
        for (int boat = 0; boat < 8; boat++) {
            EDGES.due("fouls of " + boat, x.about(boat, 2), boat == 0 ? 0 : 1);
        }
        ToyRegatta pairs = Regattas.racing(Regattas.FIVE, Regattas.FOUR, Regattas.FOUR, Regattas.FIVE);
        pairs.judge(5);
        pairs.pass(1);
        for (int boat = 0; boat < 4; boat++) {
            EDGES.due("fouls at two places, of " + boat, pairs.about(boat, 2), boat < 2 ? 0 : 1);
        }
    }

    private static void justTheLength() {
        ToyRegatta x = Regattas.of(Regattas.CRAWLER);
        x.pond(20);
        x.start();
        Regattas.blow(x, 1, 19);
        EDGES.dueAbout(x, 0, 19, -1, 0, 0, 1);
        x.pass(1);
        EDGES.dueAbout(x, 0, 20, 20, 0, 0, 2);
    }

    private static void moreThanTheLength() {
        ToyRegatta x = Regattas.of(Regattas.FIVE);
        x.pond(21);
        x.start();
        x.pass(4);
        EDGES.dueAbout(x, 0, 20, -1, 0, 0, 1);
        x.pass(1);
        EDGES.dueAbout(x, 0, 25, 5, 0, 0, 2);
    }

    /** No boat goes 20 in a minute without falling over; the fastest one needs two of 12. */
    private static void timeFromTheStart() {
        ToyRegatta x = Regattas.of(new int[] {1, 0, 1});
        Regattas.windEverywhere(x, 3);
        x.pond(20);
        x.pass(7);
        x.start();
        x.pass(1);
        EDGES.dueAbout(x, 0, 12, -1, 0, 0, 1);
        x.pass(1);
        EDGES.dueAbout(x, 0, 24, 2, 0, 0, 2);
    }

    private static void dryingMinutes() {
        ToyRegatta x = Regattas.soakedBy(9);
        EDGES.due("the minute", x.count(0), 13);
        int[] minutes = {14, 15, 16, 19, 20, 21, 24, 25, 26};
        int[] soaked = {9, 9, 8, 8, 8, 7, 7, 7, 6};
        for (int i = 0; i < minutes.length; i++) {
            x.pass(minutes[i] - x.count(0));
            EDGES.due("soaked ahead of the minute " + minutes[i], x.told(0, 4), soaked[i]);
        }
    }

    private static void dryInARace() {
        // One that is not in the race dries in it.
        ToyRegatta absent = Regattas.soakedBy(9);
        Regattas.add(absent, Regattas.CRAWLER);
        absent.start();
        absent.pass(2);
        EDGES.due("soaked ahead of the minute 15", absent.told(0, 4), 9);
        absent.pass(1);
        EDGES.due("soaked behind it", absent.told(0, 4), 8);

        // One that is out of the race, one that is in, and one that sails, don't.
        ToyRegatta out = Regattas.racing(Regattas.TIPPY, Regattas.CRAWLER);
        out.pass(13);
        Regattas.blow(out, 0, 46);
        EDGES.due("a race", out.count(5), 1);
        EDGES.due("soaked of one that is out", out.told(0, 4), 9);
        ToyRegatta in = Regattas.of(Regattas.TIPPY, Regattas.CRAWLER);
        in.pond(40);
        in.start();
        in.pass(1);
        Regattas.blow(in, 3, 16);
        Regattas.blow(in, 0, 42);
        EDGES.due("a race", in.count(5), 1);
        EDGES.dueAbout(in, 0, 42, 17, 0, 0, 2);
        EDGES.due("soaked of one that is in", in.told(0, 4), 2);
        ToyRegatta sails = Regattas.racing(Regattas.TIPPY);
        sails.pass(1);
        Regattas.blow(sails, 0, 59);
        EDGES.due("soaked of one that sailed", sails.told(0, 4), 2);
        sails.pass(1);
        EDGES.due("soaked behind the race", sails.told(0, 4), 1);
    }

    /** A race that ends in a minute that can be divided by 5 is a race until behind it: its sailors don't dry in it. */
    private static void dryInTheLastMinute() {
        ToyRegatta out = Regattas.of(Regattas.TIPPY);
        out.pass(3);
        out.start();
        out.pass(13);
        EDGES.due("the minute", out.count(0), 16);
        EDGES.due("a race", out.count(5), 0);
        EDGES.due("soaked of one that is out in the minute 15", out.told(0, 4), 9);

        ToyRegatta sails = Regattas.of(Regattas.TIPPY);
        sails.pass(1);
        sails.start();
        sails.pass(1);
        Regattas.blow(sails, 0, 59);
        EDGES.due("the minute", sails.count(0), 61);
        EDGES.due("a race", sails.count(5), 0);
        EDGES.due("soaked of one that sailed in the minute 60", sails.told(0, 4), 2);

        // The boat 0 is not in the race of the boat 1, and dries in its last minute, too.
        ToyRegatta absent = Regattas.soakedBy(9);
        Regattas.add(absent, Regattas.FIVE);
        absent.pass(1);
        absent.start();
        absent.pass(11);
        EDGES.due("soaked ahead of the minute 25", absent.told(0, 4), 7);
        absent.pass(1);
        EDGES.due("a race", absent.count(5), 0);
        EDGES.due("soaked behind the minute 25", absent.told(0, 4), 6);
    }

    private static void dryWithoutARace() {
        ToyRegatta x = Regattas.fleet(8, Regattas.TIPPY);
        x.start();
        x.pass(13);
        EDGES.due("all are soaked", x.count(8), 72);
        x.pass(2);
        EDGES.due("ahead of the minute 15", x.count(8), 72);
        x.pass(1);
        EDGES.due("behind it", x.count(8), 64);
        for (int boat = 0; boat < 8; boat++) {
            EDGES.due("soaked of " + boat, x.told(boat, 4), 8);
        }
    }

    private static void dryAtLast() {
        ToyRegatta x = Regattas.soakedBy(1);
        EDGES.due("soaked", x.told(0, 4), 1);
        x.pass(5);
        EDGES.due("dry", x.told(0, 4), 0);
        x.pass(5);
        EDGES.due("still dry", x.told(0, 4), 0);
        x.pass(90);
        EDGES.due("dry for long", x.told(0, 4), 0);
    }

    private static void minutesGoBy() {
        ToyRegatta x = new ToyRegatta();
        x.pass(1);
        EDGES.due("the minute without boats", x.count(0), 1);
        Regattas.add(x, Regattas.FIVE);
        x.start();
        x.pass(1);
        EDGES.due("the minute in a race", x.count(0), 2);
        x.pass(11);
        EDGES.due("the minute behind the last one of a race", x.count(0), 13);
        x.pass(90);
        EDGES.due("the minute behind a race", x.count(0), 103);
    }

    private static void raceIsOverBehind(String what, ToyRegatta x, int minutes) {
        x.pass(minutes - 1);
        EDGES.due(what + ": a race ahead of the last minute", x.count(5), 1);
        x.pass(1);
        EDGES.due(what + ": a race behind the last minute", x.count(5), 0);
    }

    private static void overWhenAllAreInOrOut() {
        raceIsOverBehind("all in", Regattas.racing(Regattas.FIVE, Regattas.FIVE), 12);
        raceIsOverBehind("all out", Regattas.racing(Regattas.TIPPY, Regattas.TIPPY), 13);
        raceIsOverBehind("in, then out", Regattas.racing(Regattas.FIVE, Regattas.TIPPY), 13);
        raceIsOverBehind("out, then in", Regattas.racing(Regattas.TIPPY, Regattas.FOUR), 15);
        raceIsOverBehind("the last one", Regattas.racing(Regattas.THREE, Regattas.FIVE, Regattas.TIPPY), 20);
        ToyRegatta absent = Regattas.soakedBy(9);
        Regattas.add(absent, Regattas.FIVE);
        absent.start();
        raceIsOverBehind("one that is not in it", absent, 12);
    }

    private static void overBehind60() {
        ToyRegatta calm = Regattas.of(Regattas.FIVE);
        Regattas.windEverywhere(calm, 0);
        calm.pass(7);
        calm.start();
        raceIsOverBehind("without wind", calm, 60);
        EDGES.dueAbout(calm, 0, 0, -1, 0, 0, 1);

        for (int length = 60; length <= 61; length++) {
            ToyRegatta x = Regattas.of(Regattas.CRAWLER);
            Regattas.windEverywhere(x, 1);
            x.pond(length);
            x.start();
            raceIsOverBehind("on " + length, x, 60);
            boolean in = length == 60;
            EDGES.dueAbout(x, 0, 60, in ? 60 : -1, 0, 0, in ? 2 : 1);
            EDGES.due("points on " + length, x.told(0, 3), in ? 8 : 0);
            x.pass(1);
            EDGES.due("place later on " + length, x.about(0, 0), 60);
        }
    }

    private static void pointsAtTheEnd() {
        ToyRegatta x = Regattas.racing(Regattas.FIVE, Regattas.FOUR);
        x.pass(14);
        EDGES.due("points of one that is in", x.told(0, 3), 0);
        x.pass(1);
        EDGES.due("points of the first one", x.told(0, 3), 8);
        EDGES.due("points of the second one", x.told(1, 3), 5);
        x.pass(90);
        EDGES.due("points are given once", x.count(7), 13);
    }

    private static void noPointsForOthers() {
        // The boat 0 is not in the race, 1 is in, 2 will be out, 3 lies without wind and is not in at the end.
        ToyRegatta x = Regattas.soakedBy(9);
        Regattas.add(x, Regattas.FIVE);
        Regattas.add(x, Regattas.TIPPY);
        Regattas.add(x, Regattas.THREE);
        EDGES.due("start", x.start(), 3);
        x.pass(13);
        Regattas.blow(x, 0, 47);
        int[] how = {0, 2, 3, 1};
        int[] points = {0, 8, 0, 0};
        for (int boat = 0; boat < how.length; boat++) {
            EDGES.due("how it is with " + boat, x.about(boat, 4), how[boat]);
            EDGES.due("points of " + boat, x.told(boat, 3), points[boat]);
        }
    }

    /** Two boats go 5 a minute, the second one with a foul at the end; a third one goes 4 a minute, alone. */
    private static void foulsAsMinutes() {
        // Length, the judge's place, the times, and the points of the second and the third one.
        int[][] rows = {{56, 70, 12, 14, 3, 5}, {60, 70, 12, 15, 5, 3}, {65, 75, 13, 17, 5, 3}};
        for (int[] row : rows) {
            ToyRegatta x = Regattas.of(Regattas.FIVE, Regattas.FIVE, Regattas.FOUR);
            x.pond(row[0]);
            x.judge(row[1]);
            x.start();
            x.pass(60);
            String on = " on " + row[0];
            EDGES.due("time of the second one" + on, x.about(1, 1), row[2]);
            EDGES.due("fouls of the second one" + on, x.about(1, 2), 1);
            EDGES.due("time of the third one" + on, x.about(2, 1), row[3]);
            EDGES.due("points of the first one" + on, x.told(0, 3), 8);
            EDGES.due("points of the second one" + on, x.told(1, 3), row[4]);
            EDGES.due("points of the third one" + on, x.told(2, 3), row[5]);
        }
    }

    /** 15 without a foul, 12, and 12 with one. */
    private static void oneTime() {
        ToyRegatta x = Regattas.of(Regattas.FOUR, Regattas.FIVE, Regattas.FIVE);
        x.judge(70);
        x.start();
        x.pass(15);
        int[] points = {5, 8, 3};
        for (int boat = 0; boat < points.length; boat++) {
            EDGES.due("points of " + boat, x.told(boat, 3), points[boat]);
        }
    }

    private static void eightIn() {
        int[] points = {8, 5, 3, 1, 1, 1, 1, 1};
        for (int boats = 1; boats <= 8; boats++) {
            ToyRegatta x = Regattas.fleet(boats, Regattas.FIVE);
            x.start();
            EDGES.due("in", x.pass(12), boats);
            for (int boat = 0; boat < boats; boat++) {
                EDGES.due("points of " + boat + " of " + boats, x.told(boat, 3), points[boat]);
            }
        }
    }
}
