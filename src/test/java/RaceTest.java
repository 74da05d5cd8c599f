/** Promises 7 and 8: start and pass, and with them the minute of a race. */
public final class RaceTest {
    private static final Check CHECK = new Check();

    public static void main(String[] args) {
        start();
        wrongMinutes();
        arrivals();
        fallingOver();
        lyingAtTheEnd();
        soakedSailorsAtTheStart();
        drying();
        dryingInTheLastMinute();
        sixtyMinutes();
        foulsThatAreSeen();
        foulsInTheMinuteOfComingIn();
        noFouls();
        points();
        pointsOfOneTime();
        secondRace();
        CHECK.end("RaceTest");
    }

    private static void start() {
        ToyRegatta empty = new ToyRegatta();
        CHECK.dueThrows("start without boats", empty, Regattas.STATE, empty::start);
        ToyRegatta x = Regattas.of(Regattas.FIVE, Regattas.FOUR);
        x.pass(7);
        CHECK.due("start", x.start(), 2);
        CHECK.due("a race", x.count(5), 1);
        CHECK.due("races", x.count(4), 1);
        CHECK.due("the minute stays", x.count(0), 7);
        int[] about = {0, -1, 0, 0, 1};
        for (int what = 0; what < about.length; what++) {
            CHECK.due("about at the start " + what, x.about(1, what), about[what]);
        }
        CHECK.dueThrows("start in a race", x, Regattas.STATE, x::start);
        x.pass(15);
        CHECK.due("start behind a race", x.start(), 2);
        CHECK.due("place at the second start", x.about(0, 0), 0);
        CHECK.due("races", x.count(4), 2);
    }

    private static void wrongMinutes() {
        ToyRegatta x = Regattas.of(Regattas.FIVE);
        x.start();
        for (int minutes : new int[] {0, 91, -1, Integer.MIN_VALUE, Integer.MAX_VALUE}) {
            CHECK.dueThrows("pass(" + minutes + ")", x, Regattas.ARGUMENT, () -> x.pass(minutes));
        }
        CHECK.due("pass(90)", x.pass(90), 1);
        CHECK.due("the minute", x.count(0), 90);
        CHECK.due("pass(1)", x.pass(1), 0);
        CHECK.due("the minute", x.count(0), 91);
    }

    private static void arrivals() {
        ToyRegatta x = Regattas.of(Regattas.FIVE, Regattas.FOUR, Regattas.THREE, Regattas.FOUR);
        x.pass(3);
        x.start();
        CHECK.due("in in 11 minutes", x.pass(11), 0);
        CHECK.due("place", x.about(0, 0), 55);
        CHECK.due("in in the 12th", x.pass(1), 1);
        CHECK.due("place of one that is in", x.about(0, 0), 60);
        CHECK.due("how it is", x.about(0, 4), 2);
        CHECK.due("in in 8 more", x.pass(8), 3);
        CHECK.due("no race any more", x.count(5), 0);
        int[] times = {12, 15, 20, 15};
        for (int boat = 0; boat < times.length; boat++) {
            CHECK.due("time of " + boat, x.about(boat, 1), times[boat]);
        }
        CHECK.due("one that is in goes no more", x.about(0, 0), 60);

        ToyRegatta longer = Regattas.of(Regattas.FOUR);
        longer.pond(61);
        longer.start();
        CHECK.due("in in 15 of a longer pond", longer.pass(15), 0);
        CHECK.due("in in the 16th", longer.pass(1), 1);
        CHECK.due("a place beyond the length", longer.about(0, 0), 64);
    }

    private static void fallingOver() {
        ToyRegatta x = Regattas.of(Regattas.TIPPY);
        x.start();
        int[] lying = {2, 1, 0, 2, 1, 0, 2, 1, 0, 2, 1, 0, 0};
        int[] soaked = {2, 2, 2, 4, 4, 4, 6, 6, 6, 8, 8, 8, 9};
        for (int minute = 0; minute < lying.length; minute++) {
            CHECK.due("a race ahead of minute " + minute, x.count(5), 1);
            x.pass(1);
            CHECK.due("lying in minute " + minute, x.about(0, 3), lying[minute]);
            CHECK.due("soaked in minute " + minute, x.told(0, 4), soaked[minute]);
            CHECK.due("place in minute " + minute, x.about(0, 0), 0);
            CHECK.due("how it is in minute " + minute, x.about(0, 4), minute < 12 ? 1 : 3);
        }
        CHECK.due("the race is over when all are out", x.count(5), 0);
        CHECK.due("no time", x.about(0, 1), -1);
        CHECK.due("no points", x.told(0, 3), 0);

        ToyRegatta rises = Regattas.of(Regattas.TIPPY);
        rises.setWind(1, 3);
        rises.setWind(2, 3);
        rises.setWind(3, 3);
        rises.start();
        rises.pass(3);
        CHECK.due("lies for two minutes", rises.about(0, 0), 0);
        rises.pass(1);
        CHECK.due("goes on behind them", rises.about(0, 0), 3);
    }

    private static void lyingAtTheEnd() {
        ToyRegatta x = Regattas.of(Regattas.TIPPY, Regattas.TIPPY);
        Regattas.windEverywhere(x, 0);
        x.start();
        x.pass(59);
        x.setWind(9, 4);
        x.pass(1);
        CHECK.due("no race any more", x.count(5), 0);
        CHECK.due("minutes left", x.about(0, 3), 2);
        x.pass(20);
        CHECK.due("minutes left later", x.about(0, 3), 2);
        CHECK.due("not in at the end", x.about(0, 4), 1);
        CHECK.due("no more sails", x.count(6), 0);
        x.start();
        CHECK.due("stands at the next start", x.about(0, 3), 0);
    }

    private static void soakedSailorsAtTheStart() {
        ToyRegatta x = Regattas.of(Regattas.TIPPY);
        x.start();
        x.pass(13);
        CHECK.dueThrows("start of one that is soaked by 9", x, Regattas.STATE, x::start);
        x.build(9, 0);
        CHECK.due("start without the soaked one", x.start(), 1);
        int[] about = {0, -1, 0, 0, 0};
        for (int what = 0; what < about.length; what++) {
            CHECK.due("about of one not in it " + what, x.about(0, what), about[what]);
        }
        x.pass(3);
        CHECK.due("dries ashore in the race", x.told(0, 4), 8);
        CHECK.due("is not in it for that", x.about(0, 4), 0);
        CHECK.due("in", x.pass(12), 1);
        CHECK.due("points of the first one in", x.told(1, 3), 8);
        CHECK.due("points of one not in it", x.told(0, 3), 0);

        ToyRegatta nearly = Regattas.of(Regattas.TIPPY);
        nearly.start();
        nearly.pass(13 + 3);
        CHECK.due("soaked by 8", nearly.told(0, 4), 8);
        CHECK.due("start of one that is soaked by 8", nearly.start(), 1);
        nearly.pass(1);
        CHECK.due("soaked by 9 at most", nearly.told(0, 4), 9);
        CHECK.due("out at once", nearly.about(0, 4), 3);
        CHECK.due("over at once", nearly.count(5), 0);
    }

    private static void drying() {
        ToyRegatta x = Regattas.of(Regattas.TIPPY);
        x.start();
        x.pass(13);
        int[] soakedBehindMinute12 = {9, 9, 9, 8, 8, 8, 8, 8, 7, 7, 7, 7, 7, 6};
        for (int i = 1; i < soakedBehindMinute12.length; i++) {
            x.pass(1);
            CHECK.due("soaked behind minute " + (12 + i), x.told(0, 4), soakedBehindMinute12[i]);
        }
        x.pass(90);
        CHECK.due("dry", x.told(0, 4), 0);
        CHECK.due("all dry", x.count(8), 0);
    }

    private static void dryingInTheLastMinute() {
        ToyRegatta x = Regattas.of(Regattas.TIPPY);
        x.pass(3);
        x.start();
        x.pass(13);
        CHECK.due("the minute", x.count(0), 16);
        CHECK.due("the race is over", x.count(5), 0);
        CHECK.due("in the race until behind its last minute", x.told(0, 4), 9);

        // The minute 0 is one that can be divided by 5.
        ToyRegatta first = Regattas.of(Regattas.TIPPY);
        first.setWind(0, 9);
        first.start();
        first.pass(1);
        CHECK.due("does not dry in its race", first.told(0, 4), 2);
        first.setWind(0, 0);
        Regattas.windEverywhere(first, 0);
        first.pass(58);
        CHECK.due("does not dry in 59 minutes of its race", first.told(0, 4), 2);
        first.pass(1);
        CHECK.due("nor in the 60th", first.told(0, 4), 2);
        first.pass(1);
        CHECK.due("but in the minute 60", first.told(0, 4), 1);
    }

    private static void sixtyMinutes() {
        ToyRegatta x = Regattas.of(Regattas.FIVE);
        Regattas.windEverywhere(x, 0);
        x.pass(4);
        x.start();
        x.pass(59);
        CHECK.due("a race of 59 minutes", x.count(5), 1);
        CHECK.due("sails", x.count(6), 1);
        x.pass(1);
        CHECK.due("a race of 60 minutes", x.count(5), 0);
        CHECK.due("not in", x.about(0, 1), -1);
        CHECK.due("was not in at the end", x.about(0, 4), 1);
        CHECK.due("no points", x.count(7), 0);

        // 20 places of the wind in minutes of 0 to 9, the rest in the 60th minute.
        ToyRegatta last = Regattas.of(Regattas.FIVE);
        Regattas.windEverywhere(last, 0);
        last.pond(20);
        last.start();
        last.pass(56);
        for (int minute = 6; minute <= 9; minute++) {
            last.setWind(minute, 4);
        }
        CHECK.due("in in the 60th minute", last.pass(4), 1);
        CHECK.due("time 60", last.about(0, 1), 60);
        CHECK.due("points for it", last.told(0, 3), 8);
    }

    private static void foulsThatAreSeen() {
        ToyRegatta x = Regattas.of(Regattas.FIVE, Regattas.FIVE, Regattas.FIVE);
        x.judge(25);
        x.start();
        int[] fouls = {0, 0, 1, 2, 3, 4, 5, 5, 5, 5, 5, 5};
        for (int minute = 0; minute < fouls.length; minute++) {
            x.pass(1);
            CHECK.due("fouls of the smallest number", x.about(0, 2), 0);
            CHECK.due("fouls of 1 in minute " + minute, x.about(1, 2), fouls[minute]);
            CHECK.due("fouls of 2 in minute " + minute, x.about(2, 2), fouls[minute]);
        }
        ToyRegatta edge = Regattas.of(Regattas.FIVE, Regattas.FIVE);
        edge.judge(26);
        edge.judge(26);
        edge.judge(27);
        edge.start();
        edge.pass(12);
        CHECK.due("fouls from 16 to 37, once each", edge.about(1, 2), 4);
    }

    private static void foulsInTheMinuteOfComingIn() {
        ToyRegatta x = Regattas.of(Regattas.FIVE, Regattas.FIVE, Regattas.FOUR);
        x.judge(70);
        x.start();
        x.pass(12);
        CHECK.due("a foul where they come in", x.about(1, 2), 1);
        x.pass(2);
        CHECK.due("none more of one that is in", x.about(1, 2), 1);
        x.pass(1);
        CHECK.due("none with one that was in before", x.about(2, 2), 0);
        CHECK.due("at one place with it", x.about(2, 0), x.about(1, 0));
    }

    private static void noFouls() {
        ToyRegatta x = Regattas.of(Regattas.FIVE, Regattas.FIVE, Regattas.TIPPY, Regattas.TIPPY);
        Regattas.windEverywhere(x, 0);
        x.judge(0);
        x.start();
        x.pass(1);
        CHECK.due("no foul at the place 0", x.about(1, 2), 0);
        x.setWind(1, 3);
        x.pass(1);
        CHECK.due("place", x.about(2, 0), 3);
        CHECK.due("a foul", x.about(3, 2), 1);
        x.pass(1);
        CHECK.due("a foul of those that go on by 0", x.about(3, 2), 2);
        x.setWind(3, 4);
        x.setWind(4, 3);
        x.setWind(5, 3);
        x.setWind(6, 3);
        x.pass(3);
        CHECK.due("no foul of those that lie on the side", x.about(3, 2), 2);
        x.pass(1);
        CHECK.due("a foul of those that go on again", x.about(3, 2), 3);
        CHECK.due("place", x.about(3, 0), 6);

        ToyRegatta slow = Regattas.of(Regattas.THREE, Regattas.THREE);
        slow.setWind(0, 2);
        slow.judge(11);
        slow.start();
        slow.pass(1);
        CHECK.due("place 1", slow.about(1, 0), 1);
        CHECK.due("a foul at the place 1", slow.about(1, 2), 1);

        ToyRegatta unseen = Regattas.of(Regattas.FIVE, Regattas.FIVE);
        unseen.start();
        unseen.pass(12);
        CHECK.due("no foul without judges", unseen.about(1, 2), 0);
    }

    private static void points() {
        ToyRegatta x = Regattas.of(Regattas.FOUR, Regattas.FIVE, Regattas.FIVE, Regattas.FOUR, Regattas.THREE);
        x.judge(70);
        x.start();
        x.pass(15);
        CHECK.due("no points ahead of the end", x.count(7), 0);
        x.pass(5);
        // 15; 12; 12 and a foul; 15 and a foul; 20 and no foul, as it comes alone.
        int[] points = {5, 8, 3, 1, 1};
        for (int boat = 0; boat < points.length; boat++) {
            CHECK.due("points of " + boat, x.told(boat, 3), points[boat]);
        }
        CHECK.due("all points", x.count(7), 18);
    }

    private static void pointsOfOneTime() {
        ToyRegatta x = Regattas.of(Regattas.FIVE, Regattas.FIVE, Regattas.FOUR, Regattas.TIPPY);
        x.judge(70);
        x.start();
        x.pass(90);
        int[] points = {8, 5, 3, 0};
        for (int boat = 0; boat < points.length; boat++) {
            CHECK.due("points with a foul for 3 minutes, of " + boat, x.told(boat, 3), points[boat]);
        }
        ToyRegatta worse = Regattas.of(Regattas.FIVE, Regattas.FIVE, Regattas.FOUR);
        worse.judge(65);
        worse.start();
        worse.pass(90);
        CHECK.due("fouls", worse.about(1, 2), 2);
        CHECK.due("points with two fouls", worse.told(1, 3), 3);
        CHECK.due("points with the better time", worse.told(2, 3), 5);
    }

    private static void secondRace() {
        ToyRegatta x = Regattas.of(Regattas.FOUR, Regattas.FIVE, Regattas.FIVE);
        x.judge(65);
        x.start();
        CHECK.due("in, all of them", x.pass(90), 3);
        x.start();
        CHECK.due("no foul yet", x.about(2, 2), 0);
        CHECK.due("no time yet", x.about(2, 1), -1);
        CHECK.due("in again", x.pass(90), 3);
        int[] points = {10, 16, 6};
        for (int boat = 0; boat < points.length; boat++) {
            CHECK.due("points of two races, of " + boat, x.told(boat, 3), points[boat]);
        }
    }
}
