/** Makes regattas for the tests. */
final class Regattas {
    static final Class<?> INDEX = IndexOutOfBoundsException.class;
    static final Class<?> ARGUMENT = IllegalArgumentException.class;
    static final Class<?> STATE = IllegalStateException.class;

    /** Hull, rig and lead of a boat that goes 5 a minute by the wind 4: 12 minutes for a length of 60. */
    static final int[] FIVE = {1, 2, 9};
    /** Goes 4 a minute by the wind 4, with a heel of just 30: 15 minutes. */
    static final int[] FOUR = {9, 0, 0};
    /** Goes 3 a minute by the wind 4: 20 minutes. */
    static final int[] THREE = {9, 0, 9};
    /** Falls over by the wind 4, with a heel of 32. */
    static final int[] TIPPY = {8, 0, 0};

    private Regattas() {
    }

    static ToyRegatta of(int[]... boats) {
        ToyRegatta x = new ToyRegatta();
        for (int[] boat : boats) {
            int number = x.build(boat[0], boat[1]);
            x.ballast(number, boat[2]);
        }
        return x;
    }

    static void windEverywhere(ToyRegatta x, int wind) {
        for (int minute = 0; minute < 10; minute++) {
            x.setWind(minute, wind);
        }
    }

    /** What digest() has to be, by the answers of the other calls. */
    static long digest(ToyRegatta x, int[] winds, int... judges) {
        long d = 1319L;
        for (int what = 0; what <= 8; what++) {
            d = d * 31 + x.count(what);
        }
        for (int wind : winds) {
            d = d * 31 + wind;
        }
        for (int place : judges) {
            d = d * 31 + place;
        }
        for (int boat = 0; boat < x.count(2); boat++) {
            for (int what = 0; what <= 6; what++) {
                d = d * 31 + x.told(boat, what);
            }
            for (int what = 0; what <= 4; what++) {
                d = d * 31 + x.about(boat, what);
            }
        }
        return d;
    }
}
