/** The document told once more, as plainly as it goes: what would be is found by doing it to a copy. */
final class Model {
    int length = 60;
    int[] winds = {4, 4, 4, 4, 4, 4, 4, 4, 4, 4};
    int[] judges = {};
    int minute;
    int races;
    int startMinute = -1;
    int n;
    int[] hull = new int[8];
    int[] rig = new int[8];
    int[] lead = new int[8];
    int[] points = new int[8];
    int[] soaked = new int[8];
    int[] place = new int[8];
    int[] time = {-1, -1, -1, -1, -1, -1, -1, -1};
    int[] fouls = new int[8];
    int[] fell = {-9, -9, -9, -9, -9, -9, -9, -9};
    int[] left = new int[8];
    int[] how = new int[8];
    int firstOfLatest = -1;

    Model copy() {
        Model c = new Model();
        c.length = length;
        c.winds = winds.clone();
        c.judges = judges.clone();
        c.minute = minute;
        c.races = races;
        c.startMinute = startMinute;
        c.n = n;
        c.hull = hull.clone();
        c.rig = rig.clone();
        c.lead = lead.clone();
        c.points = points.clone();
        c.soaked = soaked.clone();
        c.place = place.clone();
        c.time = time.clone();
        c.fouls = fouls.clone();
        c.fell = fell.clone();
        c.left = left.clone();
        c.how = how.clone();
        return c;
    }

    boolean race() {
        return startMinute >= 0;
    }

    int pull(int b, int wind) {
        if (rig[b] == 0) {
            return wind * 3;
        }
        if (rig[b] == 1) {
            return (wind * wind) >> 1;
        }
        return wind > 0 ? wind + 5 : 0;
    }

    int heel(int b, int wind) {
        int heel = pull(b, wind) * 4;
        heel -= lead[b] * 5;
        heel -= hull[b] * 2;
        return heel < 0 ? 0 : heel;
    }

    int speed(int b, int wind) {
        int speed = pull(b, wind) * 4 / (hull[b] + 2 + (lead[b] >> 1));
        return speed > 20 ? 20 : speed;
    }

    void noRace() {
        if (race()) {
            throw new IllegalStateException();
        }
    }

    static void index(boolean right) {
        if (!right) {
            throw new IndexOutOfBoundsException();
        }
    }

    static void argument(boolean right) {
        if (!right) {
            throw new IllegalArgumentException();
        }
    }

    static void state(boolean right) {
        if (!right) {
            throw new IllegalStateException();
        }
    }

    void boat(int b) {
        index(b >= 0 && b < n);
    }

    int pond(int l) {
        argument(l >= 20 && l <= 200);
        noRace();
        int before = length;
        length = l;
        return before;
    }

    int setWind(int m, int wind) {
        index(m >= 0 && m <= 9);
        argument(wind >= 0 && wind <= 9);
        int before = winds[m];
        winds[m] = wind;
        return before;
    }

    int build(int h, int r) {
        index(r >= 0 && r <= 2);
        argument(h >= 1 && h <= 9);
        state(n < 8);
        noRace();
        hull[n] = h;
        rig[n] = r;
        n++;
        return n - 1;
    }

    int ballast(int b, int l) {
        boat(b);
        argument(l >= 0 && l <= 9);
        noRace();
        int before = lead[b];
        lead[b] = l;
        return before;
    }

    int judge(int p) {
        argument(p >= 0 && p <= 199);
        state(judges.length < 3);
        judges = java.util.Arrays.copyOf(judges, judges.length + 1);
        judges[judges.length - 1] = p;
        return judges.length;
    }

    int start() {
        noRace();
        int in = 0;
        for (int b = 0; b < n; b++) {
            in += soaked[b] < 9 ? 1 : 0;
        }
        state(in > 0);
        for (int b = 0; b < n; b++) {
            place[b] = 0;
            time[b] = -1;
            fouls[b] = 0;
            left[b] = 0;
            fell[b] = -9;
            how[b] = soaked[b] < 9 ? 1 : 0;
        }
        startMinute = minute;
        races++;
        return in;
    }

    int pass(int minutes) {
        argument(minutes >= 1 && minutes <= 90);
        int in = 0;
        while (minutes-- > 0) {
            in += one();
        }
        return in;
    }

    int one() {
        int in = 0;
        if (race()) {
            boolean[] went = move();
            for (int b = 0; b < n; b++) {
                int smallest = 0;
                while (!(went[smallest] && place[smallest] == place[b]) && smallest < b) {
                    smallest++;
                }
                if (went[b] && smallest < b && place[b] > 0 && seen(place[b])) {
                    fouls[b]++;
                }
            }
            for (int b = 0; b < n; b++) {
                if (how[b] == 1 && place[b] >= length) {
                    how[b] = 2;
                    time[b] = minute - startMinute + 1;
                    in++;
                }
            }
        }
        if (minute % 5 == 0) {
            for (int b = 0; b < n; b++) {
                if (soaked[b] > 0 && (how[b] == 0 || !race())) {
                    soaked[b]--;
                }
            }
        }
        minute++;
        if (race() && (minute - startMinute == 60 || sailing() == 0)) {
            startMinute = -1;
            points();
        }
        return in;
    }

    boolean[] move() {
        boolean[] went = new boolean[8];
        int wind = winds[minute % 10];
        for (int b = 0; b < n; b++) {
            if (how[b] != 1) {
                continue;
            }
            if (minute - fell[b] <= 2) {
                left[b] = 2 - (minute - fell[b]);
            } else if (heel(b, wind) > 30) {
                fell[b] = minute;
                left[b] = 2;
                soaked[b] += 2;
                if (soaked[b] >= 9) {
                    soaked[b] = 9;
                    how[b] = 3;
                    left[b] = 0;
                }
            } else {
                place[b] += speed(b, wind);
                went[b] = true;
            }
        }
        return went;
    }

    boolean seen(int p) {
        for (int j : judges) {
            if (p >= j - 10 && p <= j + 10) {
                return true;
            }
        }
        return false;
    }

    int sailing() {
        int sail = 0;
        for (int b = 0; b < n; b++) {
            sail += how[b] == 1 ? 1 : 0;
        }
        return sail;
    }

    void points() {
        int[] gifts = {8, 5, 3, 1, 1, 1, 1, 1};
        boolean[] given = new boolean[8];
        firstOfLatest = -1;
        for (int gift : gifts) {
            int next = -1;
            for (int b = n - 1; b >= 0; b--) {
                if (how[b] == 2 && !given[b]
                        && (next < 0 || time[b] + 3 * fouls[b] <= time[next] + 3 * fouls[next])) {
                    next = b;
                }
            }
            if (next >= 0) {
                given[next] = true;
                points[next] += gift;
                firstOfLatest = firstOfLatest < 0 ? next : firstOfLatest;
            }
        }
    }

    int told(int b, int what) {
        boat(b);
        index(what >= 0 && what <= 6);
        int wind = winds[minute % 10];
        return new int[] {hull[b], rig[b], lead[b], points[b], soaked[b], heel(b, wind), speed(b, wind)}[what];
    }

    int about(int b, int what) {
        boat(b);
        index(what >= 0 && what <= 4);
        return races == 0 ? -1 : new int[] {place[b], time[b], fouls[b], left[b], how[b]}[what];
    }

    int count(int what) {
        index(what >= 0 && what <= 8);
        int allPoints = 0;
        int allSoaked = 0;
        for (int b = 0; b < n; b++) {
            allPoints += points[b];
            allSoaked += soaked[b];
        }
        int wind = winds[minute % 10];
        return new int[] {minute, wind, n, judges.length, races, race() ? 1 : 0, race() ? sailing() : 0,
            allPoints, allSoaked}[what];
    }

    int ahead() {
        int ahead = -1;
        for (int b = n - 1; b >= 0 && race(); b--) {
            if ((how[b] == 1 || how[b] == 2) && (ahead < 0 || place[b] >= place[ahead])) {
                ahead = b;
            }
        }
        return ahead;
    }

    int champion() {
        int best = n - 1;
        for (int b = n - 2; b >= 0; b--) {
            if (points[b] * 10 - soaked[b] >= points[best] * 10 - soaked[best]) {
                best = b;
            }
        }
        return best;
    }

    boolean falls(int b, int wind) {
        boat(b);
        argument(wind >= 0 && wind <= 9);
        return heel(b, wind) > 30;
    }

    int when(int b) {
        boat(b);
        if (!race()) {
            return -1;
        }
        Model c = copy();
        c.pass(60);
        return c.time[b];
    }

    int winner() {
        Model c = copy();
        if (!c.race()) {
            try {
                c.start();
            } catch (IllegalStateException e) {
                return -1;
            }
        }
        c.pass(60);
        return c.firstOfLatest;
    }

    int advise(int b) {
        boat(b);
        int soonest = 61;
        int advised = -1;
        for (int l = 0; l <= 9; l++) {
            Model c = copy();
            c.startMinute = -1;
            c.soaked[b] = 0;
            c.ballast(b, l);
            c.start();
            c.pass(60);
            if (c.time[b] > 0 && c.time[b] < soonest) {
                soonest = c.time[b];
                advised = l;
            }
        }
        return advised;
    }

    double mean() {
        double sum = 0;
        for (int b = 0; b < n; b++) {
            sum += lead[b];
        }
        return n == 0 ? 0 : sum / n;
    }

    long digest() {
        long d = 1319;
        for (int what = 0; what <= 8; what++) {
            d = d * 31 + count(what);
        }
        for (int wind : winds) {
            d = d * 31 + wind;
        }
        for (int place : judges) {
            d = d * 31 + place;
        }
        for (int b = 0; b < n; b++) {
            for (int what = 0; what <= 6; what++) {
                d = d * 31 + told(b, what);
            }
            for (int what = 0; what <= 4; what++) {
                d = d * 31 + about(b, what);
            }
        }
        return d;
    }
}
