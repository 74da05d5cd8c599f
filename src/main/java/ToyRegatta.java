import java.util.ArrayList;
import java.util.Arrays;

/** A regatta of toy boats, with hedgehogs aboard as sailors. */
public final class ToyRegatta {
    private static final int MOST_BOATS = 8;
    private static final int MOST_JUDGES = 3;
    private static final int MOST_MINUTES = 90;
    private static final int MOST_LEAD = 9;
    private static final int COUNT_KINDS = 9;
    private static final int TOLD_KINDS = 7;
    private static final int ABOUT_KINDS = 5;
    private static final long DIGEST_START = 1319L;
    private static final long DIGEST_FACTOR = 31L;

    private final Waters waters;
    private final Fleet fleet;
    // What would be is tried out on these two, so that asking changes nothing and makes no objects.
    private final Fleet trialFleet;
    private final Boat trialBoat;

    public ToyRegatta() {
        waters = new Waters();
        fleet = new Fleet();
        trialFleet = new Fleet();
        trialBoat = new Boat(1, 0);
    }

    // ---- pond, boats, judges

    public int pond(int length) throws IllegalArgumentException, IllegalStateException {
        if (length < Waters.LEAST_LENGTH || length > Waters.MOST_LENGTH) {
            throw new IllegalArgumentException("a pond's length is 20 to 200");
        }
        requireNoRace();
        int before = waters.length;
        waters.length = length;
        return before;
    }

    public int setWind(int minute, int wind) throws IndexOutOfBoundsException, IllegalArgumentException {
        if (minute < 0 || minute >= Waters.TABLE_MINUTES) {
            throw new IndexOutOfBoundsException("a minute of the table is 0 to 9");
        }
        requireWind(wind);
        return waters.changeWind(minute, wind);
    }

    public int build(int hull, int rig)
            throws IndexOutOfBoundsException, IllegalArgumentException, IllegalStateException {
        if (rig < 0 || rig > Boat.LAST_RIG) {
            throw new IndexOutOfBoundsException("a rig is 0 to 2");
        }
        if (hull < 1 || hull > Boat.MOST_HULL) {
            throw new IllegalArgumentException("a hull is 1 to 9");
        }
        int number = fleet.boats.size();
        if (number >= MOST_BOATS) {
            throw new IllegalStateException("there are 8 boats");
        }
        requireNoRace();
        fleet.boats.add(new Boat(hull, rig));
        trialFleet.boats.add(new Boat(hull, rig));
        return number;
    }

    public int ballast(int boat, int lead)
            throws IndexOutOfBoundsException, IllegalArgumentException, IllegalStateException {
        Boat laden = boatAt(boat);
        if (lead < 0 || lead > MOST_LEAD) {
            throw new IllegalArgumentException("lead is 0 to 9");
        }
        requireNoRace();
        int before = laden.lead;
        laden.lead = lead;
        return before;
    }

    public int judge(int place) throws IllegalArgumentException, IllegalStateException {
        if (place < 0 || place > Waters.LAST_JUDGE_PLACE) {
            throw new IllegalArgumentException("a judge's place is 0 to 199");
        }
        if (waters.judges.length >= MOST_JUDGES) {
            throw new IllegalStateException("there are 3 judges");
        }
        waters.addJudge(place);
        return waters.judges.length;
    }

    // ---- races

    public int start() throws IllegalStateException {
        requireNoRace();
        if (fleet.starters() == 0) {
            throw new IllegalStateException("no boat can be in a race");
        }
        fleet.begin();
        return fleet.inState(Boat.SAILING);
    }

    public int pass(int minutes) throws IllegalArgumentException {
        if (minutes < 1 || minutes > MOST_MINUTES) {
            throw new IllegalArgumentException("minutes are 1 to 90");
        }
        int arrived = 0;
        for (int i = 0; i < minutes; i++) {
            arrived += fleet.passMinute(waters);
        }
        return arrived;
    }

    // ---- what is there

    public int told(int boat, int what) throws IndexOutOfBoundsException {
        Boat shown = boatAt(boat);
        requireKind(what, TOLD_KINDS);
        switch (what) {
            case 0: return shown.hull;
            case 1: return shown.rig;
            case 2: return shown.lead;
            case 3: return shown.points;
            case 4: return shown.soaked;
            case 5: return shown.heel(windNow());
            default: return shown.speed(windNow());
        }
    }

    public int about(int boat, int what) throws IndexOutOfBoundsException {
        Boat shown = boatAt(boat);
        requireKind(what, ABOUT_KINDS);
        if (fleet.races == 0) {
            return -1;
        }
        switch (what) {
            case 0: return shown.place;
            case 1: return shown.time;
            case 2: return shown.fouls;
            case 3: return shown.lying;
            default: return shown.state;
        }
    }

    public int count(int what) throws IndexOutOfBoundsException {
        requireKind(what, COUNT_KINDS);
        switch (what) {
            case 0: return fleet.minute;
            case 1: return windNow();
            case 2: return fleet.boats.size();
            case 3: return waters.judges.length;
            case 4: return fleet.races;
            case 5: return fleet.racing ? 1 : 0;
            // A boat that was not in at the end keeps its state, but sails in no race any more.
            case 6: return fleet.racing ? fleet.inState(Boat.SAILING) : 0;
            case 7: return fleet.allPoints();
            default: return fleet.allSoaked();
        }
    }

    public int ahead() {
        return fleet.racing ? fleet.farthest() : -1;
    }

    public int champion() {
        return fleet.best();
    }

    // ---- what would be

    public boolean falls(int boat, int wind) throws IndexOutOfBoundsException, IllegalArgumentException {
        Boat asked = boatAt(boat);
        requireWind(wind);
        return asked.heel(wind) > Boat.SAFE_HEEL;
    }

    public int when(int boat) throws IndexOutOfBoundsException {
        requireBoat(boat);
        if (!fleet.racing) {
            return -1;
        }
        trialFleet.copyFrom(fleet);
        trialFleet.finish(waters);
        return trialFleet.timeOf(boat);
    }

    public int winner() {
        trialFleet.copyFrom(fleet);
        if (!trialFleet.racing) {
            if (trialFleet.starters() == 0) {
                return -1;
            }
            trialFleet.begin();
        }
        trialFleet.finish(waters);
        return trialFleet.first();
    }

    public int advise(int boat) throws IndexOutOfBoundsException {
        Boat asked = boatAt(boat);
        int advised = -1;
        int soonest = 0;
        for (int lead = 0; lead <= MOST_LEAD; lead++) {
            int time = timeAlone(asked, lead);
            if (time != Boat.NO_TIME && (advised < 0 || time < soonest)) {
                advised = lead;
                soonest = time;
            }
        }
        return advised;
    }

    public double mean() {
        int boats = fleet.boats.size();
        if (boats == 0) {
            return 0.0;
        }
        return (double) fleet.allLead() / (double) boats;
    }

    public long digest() {
        long d = DIGEST_START;
        for (int what = 0; what < COUNT_KINDS; what++) {
            d = d * DIGEST_FACTOR + count(what);
        }
        for (int wind : waters.winds) {
            d = d * DIGEST_FACTOR + wind;
        }
        for (int place : waters.judges) {
            d = d * DIGEST_FACTOR + place;
        }
        for (int boat = 0; boat < fleet.boats.size(); boat++) {
            for (int what = 0; what < TOLD_KINDS; what++) {
                d = d * DIGEST_FACTOR + told(boat, what);
            }
            for (int what = 0; what < ABOUT_KINDS; what++) {
                d = d * DIGEST_FACTOR + about(boat, what);
            }
        }
        return d;
    }

    // ---- helpers of the calls

    private void requireNoRace() {
        if (fleet.racing) {
            throw new IllegalStateException("there is a race");
        }
    }

    private void requireWind(int wind) {
        if (wind < 0 || wind > Waters.MOST_WIND) {
            throw new IllegalArgumentException("a wind is 0 to 9");
        }
    }

    private void requireKind(int what, int kinds) {
        if (what < 0 || what >= kinds) {
            throw new IndexOutOfBoundsException("nothing is told of this");
        }
    }

    private void requireBoat(int boat) {
        if (boat < 0 || boat >= fleet.boats.size()) {
            throw new IndexOutOfBoundsException("there is no such boat");
        }
    }

    private Boat boatAt(int boat) {
        requireBoat(boat);
        return fleet.boats.get(boat);
    }

    private int windNow() {
        return waters.windOf(fleet.minute);
    }

    /** No other boat changes how a boat goes, so one alone tells its time. */
    private int timeAlone(Boat asked, int lead) {
        trialBoat.copyFrom(asked);
        trialBoat.lead = lead;
        trialBoat.soaked = 0;
        trialBoat.enterRace();
        for (int time = 1; time <= Fleet.RACE_MINUTES; time++) {
            trialBoat.sail(waters.windOf(fleet.minute + time - 1));
            trialBoat.comeIn(waters.length, time);
        }
        return trialBoat.time;
    }

    /** The pond itself, its winds, and the judges around it. */
    private static final class Waters {
        static final int LEAST_LENGTH = 20;
        static final int MOST_LENGTH = 200;
        static final int TABLE_MINUTES = 10;
        static final int MOST_WIND = 9;
        static final int LAST_JUDGE_PLACE = 199;
        private static final int FIRST_LENGTH = 60;
        private static final int FIRST_WIND = 4;
        private static final int JUDGE_SIGHT = 10;

        int length;
        final int[] winds;
        int[] judges;

        Waters() {
            length = FIRST_LENGTH;
            winds = new int[TABLE_MINUTES];
            Arrays.fill(winds, FIRST_WIND);
            judges = new int[0];
        }

        int windOf(int minute) {
            return winds[Math.floorMod(minute, TABLE_MINUTES)];
        }

        int changeWind(int minute, int wind) {
            int row = Math.floorMod(minute, TABLE_MINUTES);
            int before = winds[row];
            winds[row] = wind;
            return before;
        }

        void addJudge(int place) {
            int there = judges.length;
            judges = Arrays.copyOf(judges, there + 1);
            judges[there] = place;
        }

        boolean isSeen(int place) {
            for (int judge : judges) {
                if (Math.abs(place - judge) <= JUDGE_SIGHT) {
                    return true;
                }
            }
            return false;
        }
    }

    /** A boat with its sailor, and how it fares in the race or fared in the latest one. */
    private static final class Boat {
        static final int LAST_RIG = 2;
        static final int MOST_HULL = 9;
        static final int NO_TIME = -1;
        // How a boat is, by the numbers that about() tells.
        static final int ABSENT = 0;
        static final int SAILING = 1;
        static final int ARRIVED = 2;
        static final int OUT = 3;
        static final int SAFE_HEEL = 30;
        private static final int MOST_SPEED = 20;
        private static final int MINUTES_LYING = 2;
        private static final int SOAKED_BY_FALL = 2;
        private static final int MOST_SOAKED = 9;
        private static final int MINUTES_A_FOUL = 3;

        int hull;
        int rig;
        int lead;
        int points;
        int soaked;
        int place;
        int time;
        int fouls;
        int lying;
        int state;
        boolean wentOn;

        Boat(int hull, int rig) {
            this.hull = hull;
            this.rig = rig;
            this.time = NO_TIME;
        }

        void copyFrom(Boat other) {
            hull = other.hull;
            rig = other.rig;
            lead = other.lead;
            points = other.points;
            soaked = other.soaked;
            place = other.place;
            time = other.time;
            fouls = other.fouls;
            lying = other.lying;
            state = other.state;
            wentOn = other.wentOn;
        }

        private int pull(int wind) {
            switch (rig) {
                case 0: return 3 * wind;
                case 1: return wind * wind / 2;
                default: return wind == 0 ? 0 : 5 + wind;
            }
        }

        int heel(int wind) {
            return Math.max(0, 4 * pull(wind) - 5 * lead - 2 * hull);
        }

        int speed(int wind) {
            int weight = 2 + hull + lead / 2;
            // No boat is as light as this, but each divisor has to be looked at before it divides.
            if (weight <= 0) {
                return 0;
            }
            return Math.min(MOST_SPEED, 4 * pull(wind) / weight);
        }

        boolean canRace() {
            return soaked < MOST_SOAKED;
        }

        void enterRace() {
            place = 0;
            time = NO_TIME;
            fouls = 0;
            lying = 0;
            state = canRace() ? SAILING : ABSENT;
        }

        void sail(int wind) {
            wentOn = false;
            if (state != SAILING) {
                return;
            }
            if (lying > 0) {
                lying--;
            } else if (heel(wind) > SAFE_HEEL) {
                fallOver();
            } else {
                place += speed(wind);
                wentOn = true;
            }
        }

        private void fallOver() {
            soaked = Math.min(MOST_SOAKED, soaked + SOAKED_BY_FALL);
            if (canRace()) {
                lying = MINUTES_LYING;
            } else {
                state = OUT;
            }
        }

        boolean touches(Boat other) {
            return wentOn && other.wentOn && place == other.place && place >= 1;
        }

        /** Tells whether the boat came in by this. */
        boolean comeIn(int length, int minuteOfRace) {
            if (state != SAILING || place < length) {
                return false;
            }
            state = ARRIVED;
            time = minuteOfRace;
            return true;
        }

        void dry() {
            soaked = Math.max(0, soaked - 1);
        }

        int result() {
            return time + MINUTES_A_FOUL * fouls;
        }
    }

    /** All boats, the minute, and the race. */
    private static final class Fleet {
        static final int RACE_MINUTES = 60;
        private static final int DRYING_MINUTES = 5;

        final ArrayList<Boat> boats;
        int minute;
        int races;
        boolean racing;
        private int minutesRaced;

        Fleet() {
            boats = new ArrayList<Boat>();
        }

        /** Both fleets have as many boats, as each boat is built for both. */
        void copyFrom(Fleet other) {
            for (int i = 0; i < boats.size() && i < other.boats.size(); i++) {
                boats.get(i).copyFrom(other.boats.get(i));
            }
            minute = other.minute;
            races = other.races;
            racing = other.racing;
            minutesRaced = other.minutesRaced;
        }

        int starters() {
            int able = 0;
            for (int i = 0; i < boats.size(); i++) {
                if (boats.get(i).canRace()) {
                    able++;
                }
            }
            return able;
        }

        int inState(int state) {
            int found = 0;
            for (int i = 0; i < boats.size(); i++) {
                if (boats.get(i).state == state) {
                    found++;
                }
            }
            return found;
        }

        void begin() {
            for (int i = 0; i < boats.size(); i++) {
                boats.get(i).enterRace();
            }
            racing = true;
            minutesRaced = 0;
            races++;
        }

        /** Returns how many boats come in. */
        int passMinute(Waters waters) {
            int arrived = racing ? raceMinute(waters) : 0;
            if (minute % DRYING_MINUTES == 0) {
                dryAshore();
            }
            minute++;
            if (racing && (minutesRaced >= RACE_MINUTES || inState(Boat.SAILING) == 0)) {
                endRace();
            }
            return arrived;
        }

        void finish(Waters waters) {
            for (int i = 0; i < RACE_MINUTES && racing; i++) {
                passMinute(waters);
            }
        }

        private int raceMinute(Waters waters) {
            minutesRaced++;
            int wind = waters.windOf(minute);
            for (int i = 0; i < boats.size(); i++) {
                boats.get(i).sail(wind);
            }
            for (int i = 0; i < boats.size(); i++) {
                judgeFoul(i, waters);
            }
            int arrived = 0;
            for (int i = 0; i < boats.size(); i++) {
                if (boats.get(i).comeIn(waters.length, minutesRaced)) {
                    arrived++;
                }
            }
            return arrived;
        }

        /** However many boats of smaller numbers are touched, it is one foul. */
        private void judgeFoul(int number, Waters waters) {
            if (number < 0 || number >= boats.size()) {
                return;
            }
            Boat boat = boats.get(number);
            for (int i = 0; i < number; i++) {
                if (boat.touches(boats.get(i)) && waters.isSeen(boat.place)) {
                    boat.fouls++;
                    return;
                }
            }
        }

        private void dryAshore() {
            for (int i = 0; i < boats.size(); i++) {
                Boat boat = boats.get(i);
                if (!racing || boat.state == Boat.ABSENT) {
                    boat.dry();
                }
            }
        }

        private void endRace() {
            racing = false;
            for (int i = 0; i < boats.size(); i++) {
                Boat boat = boats.get(i);
                if (boat.state == Boat.ARRIVED) {
                    boat.points += pointsFor(boatsAheadOf(i));
                }
            }
        }

        private int pointsFor(int rank) {
            switch (rank) {
                case 0: return 8;
                case 1: return 5;
                case 2: return 3;
                default: return 1;
            }
        }

        /** How many boats that are in have a better result than this one that is in. */
        private int boatsAheadOf(int number) {
            if (number < 0 || number >= boats.size()) {
                return 0;
            }
            int result = boats.get(number).result();
            int ahead = 0;
            for (int i = 0; i < boats.size(); i++) {
                Boat other = boats.get(i);
                boolean better = other.result() < result || other.result() == result && i < number;
                if (other.state == Boat.ARRIVED && better) {
                    ahead++;
                }
            }
            return ahead;
        }

        /** The boat that is first in a race that is over, -1 if none came in. */
        int first() {
            for (int i = 0; i < boats.size(); i++) {
                if (boats.get(i).state == Boat.ARRIVED && boatsAheadOf(i) == 0) {
                    return i;
                }
            }
            return -1;
        }

        int timeOf(int number) {
            if (number < 0 || number >= boats.size()) {
                return Boat.NO_TIME;
            }
            return boats.get(number).time;
        }

        int farthest() {
            int leader = -1;
            int place = -1;
            for (int i = 0; i < boats.size(); i++) {
                Boat boat = boats.get(i);
                boolean counts = boat.state == Boat.SAILING || boat.state == Boat.ARRIVED;
                if (counts && boat.place > place) {
                    leader = i;
                    place = boat.place;
                }
            }
            return leader;
        }

        int best() {
            int best = -1;
            int points = 0;
            int soaked = 0;
            for (int i = 0; i < boats.size(); i++) {
                Boat boat = boats.get(i);
                boolean better = boat.points > points || boat.points == points && boat.soaked < soaked;
                if (best < 0 || better) {
                    best = i;
                    points = boat.points;
                    soaked = boat.soaked;
                }
            }
            return best;
        }

        int allPoints() {
            int sum = 0;
            for (int i = 0; i < boats.size(); i++) {
                sum += boats.get(i).points;
            }
            return sum;
        }

        int allSoaked() {
            int sum = 0;
            for (int i = 0; i < boats.size(); i++) {
                sum += boats.get(i).soaked;
            }
            return sum;
        }

        int allLead() {
            int sum = 0;
            for (int i = 0; i < boats.size(); i++) {
                sum += boats.get(i).lead;
            }
            return sum;
        }
    }
}
