import java.util.Arrays;

/** Makes regattas for the tests. */
final class Regattas {
    static final Class<?> INDEX = IndexOutOfBoundsException.class;
    static final Class<?> ARGUMENT = IllegalArgumentException.class;
    static final Class<?> STATE = IllegalStateException.class;

    /** Hull, rig and lead of a boat that goes 5 a minute by the wind 4: 12 minutes for a length of 60. */
    static final int[] FIVE = {1, 2, 9};
    /** Goes 4 a minute by the wind 4, with a heel of just 30: 15 minutes. */
    static final int[] FOUR = {9, 0, 0};
    /** Goes 3 a minute by the wind 4: 20 minutes. */
    static final int[] THREE = {9, 0, 9};
    /** Falls over by the wind 4, with a heel of 32. */
    static final int[] TIPPY = {8, 0, 0};

    /** Goes 1 a minute by the wind 1, and never falls over. */
    static final int[] CRAWLER = {9, 2, 9};
    /** Goes 10 a minute by the wind 8 and 11 by the wind 9. */
    static final int[] RACER = {1, 2, 5};

    private Regattas() {
    }

    static ToyRegatta of(int[]... boats) {
        ToyRegatta x = new ToyRegatta();
        for (int[] boat : boats) {
            add(x, boat);
        }
        return x;
    }

    static ToyRegatta racing(int[]... boats) {
        ToyRegatta x = of(boats);
        x.start();
        return x;
    }

    /** As many boats of a kind. */
    static ToyRegatta fleet(int boats, int[] boat) {
        int[][] all = new int[boats][];
        Arrays.fill(all, boat);
        return of(all);
    }

    static ToyRegatta two() {
        return of(FIVE, FOUR);
    }

    static ToyRegatta twoRacing() {
        return racing(FIVE, FOUR);
    }

    static ToyRegatta eight() {
        return fleet(8, FIVE);
    }

    /** Their race lasts 60 minutes for want of wind, and is in its last one. */
    static ToyRegatta twoInTheLastMinute() {
        ToyRegatta x = twoRacing();
        blow(x, 0, 59);
        return x;
    }

    /** In a race: 0 is not in it, 1 sails, 2 lies on the side, 3 sails and has two fouls. */
    static ToyRegatta mixed() {
        ToyRegatta x = soakedBy(9);
        add(x, FIVE);
        add(x, TIPPY);
        add(x, FIVE);
        x.judge(0);
        x.start();
        x.pass(2);
        return x;
    }

    /** A tippy boat, behind a race, whose sailor is soaked by 9 down to 0, in the first minute of that. */
    static ToyRegatta soakedBy(int soaked) {
        ToyRegatta x = racing(TIPPY);
        x.pass(soaked == 9 ? 13 : 16 + 5 * (8 - soaked));
        return x;
    }

    /** Behind a race, in whose last minute a tippy boat has fallen over. */
    static ToyRegatta lyingBehindARace() {
        ToyRegatta x = racing(TIPPY);
        blow(x, 0, 59);
        blow(x, 4, 1);
        return x;
    }

    /** In a race: 0 is out, 1 is in, 2 sails. */
    static ToyRegatta outAndIn() {
        ToyRegatta x = racing(TIPPY, FOUR, CRAWLER);
        x.pass(15);
        return x;
    }

    /** Adds a boat, and returns its number. */
    static int add(ToyRegatta x, int[] boat) {
        int number = x.build(boat[0], boat[1]);
        x.ballast(number, boat[2]);
        return number;
    }

    /** Lets minutes go by with this wind. */
    static int blow(ToyRegatta x, int wind, int minutes) {
        windEverywhere(x, wind);
        return x.pass(minutes);
    }

    static void windEverywhere(ToyRegatta x, int wind) {
        for (int minute = 0; minute < 10; minute++) {
            x.setWind(minute, wind);
        }
    }

    /** What digest() has to be, by the answers of the other calls. */
    static long digest(ToyRegatta x, int[] winds, int... judges) {
        long d = 1319L;
        for (int what = 0; what <= 8; what++) {
            d = d * 31 + x.count(what);
        }
        for (int wind : winds) {
            d = d * 31 + wind;
        }
        for (int place : judges) {
            d = d * 31 + place;
        }
        for (int boat = 0; boat < x.count(2); boat++) {
            for (int what = 0; what <= 6; what++) {
                d = d * 31 + x.told(boat, what);
            }
            for (int what = 0; what <= 4; what++) {
                d = d * 31 + x.about(boat, what);
            }
        }
        return d;
    }
}
