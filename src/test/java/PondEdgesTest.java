import java.util.function.Supplier;

/** The boundary cases that the promises 1 to 6 name: a new object, pond, setWind, build, ballast, judge. */
public final class PondEdgesTest {
    private static final Edges EDGES = new Edges();

    public static void main(String[] args) {
        EDGES.of("Creates a pond without boats, in the minute 0", PondEdgesTest::newObject);
        EDGES.of("the length of the pond from now on", PondEdgesTest::lengthFromNowOn);
        EDGES.of("Returns the length before", PondEdgesTest::lengthBefore);
        EDGES.of("if length is not 20 to 200", PondEdgesTest::wrongLength);
        EDGES.of("pond: if there is a race", PondEdgesTest::pondInARace);
        EDGES.of("a minute of the table, 0 to 9", PondEdgesTest::minutesOfTheTable);
        EDGES.of("Returns the wind before", PondEdgesTest::windBefore);
        EDGES.of("if minute is not 0 to 9", PondEdgesTest::wrongMinute);
        EDGES.of("setWind: if wind is not 0 to 9", PondEdgesTest::wrongWind);
        EDGES.of("setWind in a race", PondEdgesTest::windInARace);
        EDGES.of("build: Returns its number", PondEdgesTest::numbers);
        EDGES.of("if rig is not 0 to 2", PondEdgesTest::wrongRig);
        EDGES.of("if hull is not 1 to 9", PondEdgesTest::wrongHull);
        EDGES.of("if there are 8", PondEdgesTest::ninthBoat);
        EDGES.of("build: or there is a race", PondEdgesTest::buildInARace);
        EDGES.of("Returns the lead before", PondEdgesTest::leadBefore);
        EDGES.of("ballast: if there is no such boat", PondEdgesTest::ballastOfNoBoat);
        EDGES.of("if lead is not 0 to 9", PondEdgesTest::wrongLead);
        EDGES.of("ballast: if there is a race", PondEdgesTest::ballastInARace);
        EDGES.of("Returns how many there are then", PondEdgesTest::judges);
        EDGES.of("if place is not 0 to 199", PondEdgesTest::wrongPlace);
        EDGES.of("if there are 3", PondEdgesTest::fourthJudge);
        EDGES.of("judge in a race", PondEdgesTest::judgeInARace);
        EDGES.of("from now on, behind races", PondEdgesTest::changedBehindARace);
        EDGES.end("PondEdgesTest");
    }

    private static ToyRegatta eightRacing() {
        ToyRegatta x = Regattas.eight();
        x.start();
        return x;
    }

    private static ToyRegatta behindTheRace() {
        ToyRegatta x = Regattas.twoInTheLastMinute();
        x.pass(1);
        return x;
    }

    private static ToyRegatta threeJudges() {
        ToyRegatta x = Regattas.twoRacing();
        x.judge(10);
        x.judge(30);
        x.judge(50);
        return x;
    }

    private static void newObject() {
        ToyRegatta x = new ToyRegatta();
        EDGES.due("minute", x.count(0), 0);
        EDGES.due("wind", x.count(1), 4);
        for (int what = 2; what <= 8; what++) {
            EDGES.due("count(" + what + ")", x.count(what), 0);
        }
        EDGES.due("ahead", x.ahead(), -1);
        EDGES.due("champion", x.champion(), -1);
        EDGES.due("winner", x.winner(), -1);
        EDGES.dueDouble("mean", x.mean(), 0.0);
        EDGES.due("pond", x.pond(60), 60);
        EDGES.due("one more object has its own boats", Regattas.two().count(2) * 10 + x.count(2), 20);
    }

    private static void lengthFromNowOn() {
        ToyRegatta x = Regattas.two();
        x.pond(20);
        x.start();
        EDGES.due("in on 20", x.pass(4), 1);
        x.pass(1);
        x.pond(21);
        x.start();
        EDGES.due("in on 21 in 4 minutes", x.pass(4), 0);
        EDGES.due("in on 21 in 5 minutes", x.pass(1), 1);
    }

    private static void lengthBefore() {
        ToyRegatta x = Regattas.two();
        EDGES.due("pond(20)", x.pond(20), 60);
        EDGES.due("pond(200)", x.pond(200), 20);
        EDGES.due("pond(200) again", x.pond(200), 200);
        EDGES.due("pond(21)", x.pond(21), 200);
        EDGES.due("pond(199)", x.pond(199), 21);
        EDGES.due("pond(60)", x.pond(60), 199);
    }

    private static void wrongLength() {
        for (int length : new int[] {19, 201, 0, -20, -60, Edges.LEAST_INT, Edges.MOST_INT}) {
            String call = "pond(" + length + ")";
            EDGES.refused(call, Regattas::two, Regattas.ARGUMENT, x -> x.pond(length));
            EDGES.refused(call + " in a race", Regattas::twoRacing, Regattas.ARGUMENT, x -> x.pond(length));
        }
    }

    private static void pondInARace() {
        for (int length : new int[] {20, 60, 200}) {
            String call = "pond(" + length + ")";
            EDGES.refused(call, Regattas::twoRacing, Regattas.STATE, x -> x.pond(length));
            EDGES.refused(call + " in the last minute", Regattas::twoInTheLastMinute, Regattas.STATE,
                x -> x.pond(length));
            EDGES.due(call + " behind the race", behindTheRace().pond(length), 60);
        }
    }

    private static void minutesOfTheTable() {
        ToyRegatta x = new ToyRegatta();
        x.setWind(0, 1);
        x.setWind(9, 8);
        EDGES.due("wind of the minute 0", x.count(1), 1);
        x.pass(1);
        EDGES.due("wind of the minute 1", x.count(1), 4);
        x.pass(7);
        EDGES.due("wind of the minute 8", x.count(1), 4);
        x.pass(1);
        EDGES.due("wind of the minute 9", x.count(1), 8);
        x.pass(1);
        EDGES.due("wind of the minute 10", x.count(1), 1);
    }

    private static void windBefore() {
        ToyRegatta x = new ToyRegatta();
        for (int minute = 0; minute < 10; minute++) {
            EDGES.due("the first wind of " + minute, x.setWind(minute, 0), 4);
            EDGES.due("the least wind of " + minute, x.setWind(minute, 9), 0);
            EDGES.due("the most wind of " + minute, x.setWind(minute, minute), 9);
        }
        for (int minute = 0; minute < 10; minute++) {
            EDGES.due("the latest wind of " + minute, x.setWind(minute, 4), minute);
        }
    }

    private static void wrongMinute() {
        for (int minute : Edges.NOT_0_TO_9) {
            for (int wind : new int[] {0, 9, -1, 10}) {
                EDGES.refused("setWind(" + minute + ", " + wind + ")", Regattas::two, Regattas.INDEX,
                    x -> x.setWind(minute, wind));
            }
        }
    }

    private static void wrongWind() {
        for (int wind : Edges.NOT_0_TO_9) {
            for (int minute : new int[] {0, 9}) {
                EDGES.refused("setWind(" + minute + ", " + wind + ")", Regattas::twoRacing, Regattas.ARGUMENT,
                    x -> x.setWind(minute, wind));
            }
        }
    }

    private static void windInARace() {
        ToyRegatta x = Regattas.twoRacing();
        EDGES.due("setWind(0, 0)", x.setWind(0, 0), 4);
        x.pass(1);
        EDGES.due("place without wind", x.about(0, 0), 0);
    }

    private static void numbers() {
        ToyRegatta x = new ToyRegatta();
        EDGES.due("the least of both", x.build(1, 0), 0);
        EDGES.due("the most of both", x.build(9, 2), 1);
        for (int number = 2; number <= 7; number++) {
            EDGES.due("one more", x.build(5, 1), number);
        }
        EDGES.due("hull", x.told(1, 0), 9);
        EDGES.due("rig", x.told(1, 1), 2);
    }

    private static void wrongRig() {
        for (int rig : new int[] {-1, 3, Edges.LEAST_INT, Edges.MOST_INT}) {
            for (int hull : new int[] {1, 9, 0, 10}) {
                String call = "build(" + hull + ", " + rig + ")";
                EDGES.refused(call, Regattas::two, Regattas.INDEX, x -> x.build(hull, rig));
                EDGES.refused(call + " as a ninth one", Regattas::eight, Regattas.INDEX,
                    x -> x.build(hull, rig));
                EDGES.refused(call + " in a race", Regattas::twoRacing, Regattas.INDEX,
                    x -> x.build(hull, rig));
            }
        }
    }

    private static void wrongHull() {
        for (int hull : new int[] {0, 10, -1, Edges.LEAST_INT, Edges.MOST_INT}) {
            for (int rig : new int[] {0, 2}) {
                String call = "build(" + hull + ", " + rig + ")";
                EDGES.refused(call, ToyRegatta::new, Regattas.ARGUMENT, x -> x.build(hull, rig));
                EDGES.refused(call + " as a ninth one", Regattas::eight, Regattas.ARGUMENT,
                    x -> x.build(hull, rig));
                EDGES.refused(call + " in a race", Regattas::twoRacing, Regattas.ARGUMENT,
                    x -> x.build(hull, rig));
            }
        }
    }

    private static void ninthBoat() {
        EDGES.due("an eighth boat", Regattas.fleet(7, Regattas.FIVE).build(9, 2), 7);
        EDGES.refused("a ninth boat", Regattas::eight, Regattas.STATE, x -> x.build(9, 2));
        EDGES.refused("a ninth boat in a race", PondEdgesTest::eightRacing, Regattas.STATE, x -> x.build(9, 2));
    }

    private static void buildInARace() {
        EDGES.refused("build", Regattas::twoRacing, Regattas.STATE, x -> x.build(9, 2));
        EDGES.refused("build in the last minute", Regattas::twoInTheLastMinute, Regattas.STATE,
            x -> x.build(1, 0));
        EDGES.due("build behind the race", behindTheRace().build(1, 0), 2);
    }

    private static void leadBefore() {
        ToyRegatta x = new ToyRegatta();
        x.build(1, 0);
        x.build(1, 0);
        EDGES.due("ballast(1, 9)", x.ballast(1, 9), 0);
        EDGES.due("ballast(1, 0)", x.ballast(1, 0), 9);
        EDGES.due("ballast(1, 1)", x.ballast(1, 1), 0);
        EDGES.due("ballast(0, 5)", x.ballast(0, 5), 0);
        EDGES.due("ballast(1, 1) again", x.ballast(1, 1), 1);
    }

    private static void ballastOfNoBoat() {
        EDGES.refused("ballast(0, 0) without boats", ToyRegatta::new, Regattas.INDEX, x -> x.ballast(0, 0));
        for (int boat : Edges.NO_BOATS_OF_TWO) {
            for (int lead : new int[] {0, 9, -1, 10}) {
                String call = "ballast(" + boat + ", " + lead + ")";
                EDGES.refused(call, Regattas::two, Regattas.INDEX, x -> x.ballast(boat, lead));
                EDGES.refused(call + " in a race", Regattas::twoRacing, Regattas.INDEX,
                    x -> x.ballast(boat, lead));
            }
        }
        EDGES.refused("ballast(8, 0) of eight", Regattas::eight, Regattas.INDEX, x -> x.ballast(8, 0));
        EDGES.due("ballast(7, 0) of eight", Regattas.eight().ballast(7, 0), 9);
    }

    private static void wrongLead() {
        for (int lead : Edges.NOT_0_TO_9) {
            for (int boat : new int[] {0, 1}) {
                String call = "ballast(" + boat + ", " + lead + ")";
                EDGES.refused(call, Regattas::two, Regattas.ARGUMENT, x -> x.ballast(boat, lead));
                EDGES.refused(call + " in a race", Regattas::twoRacing, Regattas.ARGUMENT,
                    x -> x.ballast(boat, lead));
            }
        }
    }

    private static void ballastInARace() {
        EDGES.refused("ballast", Regattas::twoRacing, Regattas.STATE, x -> x.ballast(1, 9));
        EDGES.refused("ballast as before", Regattas::twoRacing, Regattas.STATE, x -> x.ballast(1, 0));
        EDGES.refused("ballast in the last minute", Regattas::twoInTheLastMinute, Regattas.STATE,
            x -> x.ballast(0, 0));
        Supplier<ToyRegatta> absent = () -> {
            ToyRegatta x = Regattas.soakedBy(9);
            Regattas.add(x, Regattas.FIVE);
            x.start();
            return x;
        };
        EDGES.refused("ballast of one that is not in the race", absent, Regattas.STATE, x -> x.ballast(0, 1));
        EDGES.due("ballast behind the race", behindTheRace().ballast(0, 0), 9);
    }

    private static void judges() {
        ToyRegatta x = new ToyRegatta();
        EDGES.due("judge(199)", x.judge(199), 1);
        EDGES.due("judge(0)", x.judge(0), 2);
        EDGES.due("judge(199) again", x.judge(199), 3);
    }

    private static void wrongPlace() {
        for (int place : new int[] {-1, 200, -10, 209, Edges.LEAST_INT, Edges.MOST_INT}) {
            String call = "judge(" + place + ")";
            EDGES.refused(call, Regattas::two, Regattas.ARGUMENT, x -> x.judge(place));
            EDGES.refused(call + " as a fourth one", PondEdgesTest::threeJudges, Regattas.ARGUMENT,
                x -> x.judge(place));
        }
    }

    private static void fourthJudge() {
        for (int place : new int[] {0, 10, 199}) {
            EDGES.refused("judge(" + place + ")", PondEdgesTest::threeJudges, Regattas.STATE, x -> x.judge(place));
        }
    }

    /** No row of judge forbids it in a race: from then on it sees. */
    private static void judgeInARace() {
        ToyRegatta x = Regattas.racing(Regattas.FIVE, Regattas.FIVE);
        x.pass(2);
        EDGES.due("fouls without a judge", x.about(1, 2), 0);
        EDGES.due("judge(10)", x.judge(10), 1);
        x.pass(1);
        EDGES.due("fouls with a judge", x.about(1, 2), 1);
    }

    /** What is answered goes neither by the races that were nor by how boats are behind them. */
    private static void changedBehindARace() {
        ToyRegatta x = Regattas.outAndIn();
        x.pass(15);
        for (int race = 1; race <= 2; race++) {
            EDGES.due("a race", x.count(5), 0);
            for (int boat = 0; boat < 3; boat++) {
                int lead = x.told(boat, 2);
                EDGES.due("the lead of " + boat + " before", x.ballast(boat, 3), lead);
                EDGES.due("the lead of " + boat + " behind that", x.ballast(boat, lead), 3);
            }
            EDGES.due("the length before", x.pond(59 + race), 60);
            EDGES.due("the wind before", x.setWind(9, 4), 4);
            EDGES.due("judges", x.judge(199), race);
            EDGES.due("the number", x.build(9, 2), 2 + race);
            EDGES.due("its lead before", x.ballast(2 + race, 9), 0);
            x.start();
            x.pass(90);
        }
        EDGES.due("the length at last", x.pond(20), 61);
        ToyRegatta lying = Regattas.lyingBehindARace();
        EDGES.due("the lead of one on the side before", lying.ballast(0, 9), 0);
        EDGES.due("the lead of one on the side behind that", lying.ballast(0, 0), 9);
        EDGES.due("the length before", lying.pond(20), 60);
        ToyRegatta soaked = Regattas.soakedBy(9);
        EDGES.due("the lead of one soaked by 9 before", soaked.ballast(0, 9), 0);
        EDGES.due("the lead of one soaked by 9 behind that", soaked.ballast(0, 0), 9);
        EDGES.due("the length before", soaked.pond(20), 60);
    }
}
