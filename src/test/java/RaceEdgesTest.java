import java.util.function.Supplier;

/** The boundary cases that the promises 7 and 8 name: start and pass. */
public final class RaceEdgesTest {
    private static final Edges EDGES = new Edges();

    public static void main(String[] args) {
        EDGES.of("Starts a race", RaceEdgesTest::startsARace);
        EDGES.of("Returns how many boats are in it", RaceEdgesTest::howManyAreInIt);
        EDGES.of("start: if there is a race", RaceEdgesTest::startInARace);
        EDGES.of("or no boat can be in it", RaceEdgesTest::startWithoutABoat);
        EDGES.of("Lets minutes go by", RaceEdgesTest::fewAndManyMinutes);
        EDGES.of("Returns how many boats come in in them", RaceEdgesTest::howManyComeIn);
        EDGES.of("if minutes is not 1 to 90", RaceEdgesTest::wrongMinutes);
        EDGES.end("RaceEdgesTest");
    }

    private static void startsARace() {
        ToyRegatta x = Regattas.of(Regattas.FIVE, Regattas.FIVE);
        x.judge(70);
        x.start();
        x.pass(12);
        EDGES.dueAbout(x, 1, 60, 12, 1, 0, 2);
        x.start();
        EDGES.dueAbout(x, 1, 0, -1, 0, 0, 1);
        EDGES.due("races", x.count(4), 2);
        EDGES.due("the minute stays", x.count(0), 12);
        EDGES.due("points stay", x.count(7), 13);
        x.pass(12);
        EDGES.dueAbout(x, 1, 60, 12, 1, 0, 2);

        ToyRegatta lying = Regattas.lyingBehindARace();
        EDGES.due("lies at the end", lying.about(0, 3), 2);
        lying.start();
        EDGES.dueAbout(lying, 0, 0, -1, 0, 0, 1);
        Regattas.blow(lying, 3, 1);
        EDGES.due("place behind the first minute of the next race", lying.about(0, 0), 3);
    }

    private static void howManyAreInIt() {
        EDGES.due("one", Regattas.of(Regattas.FIVE).start(), 1);
        EDGES.due("eight", Regattas.eight().start(), 8);
        ToyRegatta soaked = Regattas.soakedBy(9);
        for (int boat = 1; boat <= 7; boat++) {
            Regattas.add(soaked, Regattas.FIVE);
        }
        EDGES.due("all but a soaked one", soaked.start(), 7);
    }

    private static void startInARace() {
        EDGES.refused("start at the start", Regattas::twoRacing, Regattas.STATE, ToyRegatta::start);
        EDGES.refused("start in the last minute", Regattas::twoInTheLastMinute, Regattas.STATE,
            ToyRegatta::start);
        ToyRegatta x = Regattas.twoInTheLastMinute();
        x.pass(1);
        EDGES.due("start behind the race", x.start(), 2);
    }

    private static void startWithoutABoat() {
        EDGES.refused("start without boats", ToyRegatta::new, Regattas.STATE, ToyRegatta::start);
        EDGES.refused("start of one that is soaked", () -> Regattas.soakedBy(9), Regattas.STATE, ToyRegatta::start);
        Supplier<ToyRegatta> allSoaked = () -> {
            ToyRegatta x = Regattas.fleet(8, Regattas.TIPPY);
            x.start();
            x.pass(13);
            return x;
        };
        EDGES.refused("start of eight that are soaked", allSoaked, Regattas.STATE, ToyRegatta::start);
        EDGES.due("start of one that is soaked by 8", Regattas.soakedBy(8).start(), 1);
    }

    private static void fewAndManyMinutes() {
        ToyRegatta x = new ToyRegatta();
        x.pass(1);
        EDGES.due("behind 1", x.count(0), 1);
        x.pass(90);
        EDGES.due("behind 90 more", x.count(0), 91);
        x.pass(89);
        EDGES.due("behind 89 more", x.count(0), 180);
        ToyRegatta race = Regattas.twoRacing();
        race.pass(90);
        EDGES.due("behind 90 with a race in them", race.count(0), 90);
        EDGES.due("no race is started by it", race.count(5), 0);
    }

    private static void howManyComeIn() {
        EDGES.due("without boats", new ToyRegatta().pass(90), 0);
        EDGES.due("without a race", Regattas.of(Regattas.FIVE).pass(90), 0);
        ToyRegatta eight = Regattas.eight();
        eight.start();
        EDGES.due("none of eight", eight.pass(11), 0);
        EDGES.due("eight in one minute", eight.pass(1), 8);
        EDGES.due("none behind the race", eight.pass(90), 0);
        ToyRegatta x = Regattas.racing(Regattas.FIVE, Regattas.FOUR, Regattas.THREE, Regattas.TIPPY);
        EDGES.due("one", x.pass(14), 1);
        EDGES.due("one more", x.pass(1), 1);
        EDGES.due("the last one, with minutes behind the race", x.pass(90), 1);
    }

    private static void wrongMinutes() {
        for (int minutes : new int[] {0, 91, -1, -90, Edges.LEAST_INT, Edges.MOST_INT}) {
            String call = "pass(" + minutes + ")";
            EDGES.refused(call, ToyRegatta::new, Regattas.ARGUMENT, x -> x.pass(minutes));
            EDGES.refused(call + " in a race", Regattas::twoRacing, Regattas.ARGUMENT, x -> x.pass(minutes));
        }
    }
}
