/** Snowmaking for slopes: guns, a pump and a pond, an hour at a time. README.md tells how to use it. */
public final class SnowGuns {
    /** There is no such result. */
    public static final int NONE = -9999;

    private static final int MOST_SLOPES = 6;
    private static final int MOST_GUNS = 8;
    /** One row more than guns may be added, for the ninth gun that bestPlace tries. */
    private static final int GUN_ROWS = 9;
    private static final int MOST_WETS = 24;
    private static final int MOST_ENTRIES = 20;
    private static final int MOST_SIGNS = 120;
    private static final int MOST_STATES = 14;
    private static final int MOST_SLOTS = 2;
    private static final int MOST_SNOW = 999;
    private static final int MOST_AHEAD = 300;
    private static final int GROUP = 100000;

    private static final int PUMP = 0;
    private static final int CAPACITY = 1;
    private static final int INFLOW = 2;
    private static final int LOSS = 3;
    private static final int[] MOST_OF_SETTING = {99, 9999, 9, 50};

    private static final int COLD = 0;
    private static final int WARMING = 1;
    private static final int RUNNING = 2;

    private final TextBuffer text = new TextBuffer();
    private final State now = new State();
    /** Forecasts, scripts and simulations change this copy, never the state itself. */
    private final State trial = new State();
    /** A script asks for reasons amid its own copy, so that the hour looked into needs another one. */
    private final State probe = new State();
    private final Hours hours = new Hours();
    private final History history = new History();
    private final State[] slots = new State[MOST_SLOTS];
    private final boolean[] saved = new boolean[MOST_SLOTS];

    public SnowGuns() {
        for (int i = 0; i < MOST_SLOTS; i++) {
            slots[i] = new State();
        }
        now.begin(20, 500, 2, 10);
        now.putSlope(4, 5, 10);
        now.putGun(0, 1);
        for (int i = 0; i < MOST_WETS; i++) {
            now.weather.put(-4);
        }
    }

    // ---- text

    public int append(int c) throws IllegalArgumentException, IllegalStateException {
        if (c < 0 || c > 255) {
            throw new IllegalArgumentException("a character code is 0 to 255");
        }
        if (!text.put(c)) {
            throw new IllegalStateException("the text is full");
        }
        return text.length;
    }

    public int clearText() {
        int before = text.length;
        text.length = 0;
        return before;
    }

    public int errorPosition() {
        return text.isGood() ? NONE : text.at;
    }

    public int load() throws IllegalStateException {
        if (!text.isGood()) {
            throw new IllegalStateException("the text is not as it must be");
        }
        text.fillState(now);
        history.forget();
        for (int i = 0; i < MOST_SLOTS; i++) {
            saved[i] = false;
        }
        return now.slopeCount;
    }

    // ---- what there is

    public int about(int what) throws IllegalArgumentException {
        switch (what) {
            case PUMP:
            case CAPACITY:
            case INFLOW:
            case LOSS:
                return now.water.settings[what];
            case 4:
                return now.slopeCount;
            case 5:
                return now.gunCount;
            case 6:
                return now.weather.count;
            case 7:
                return now.water.pond;
            case 8:
                return now.hour;
            case 9:
                return now.readySlopes();
            case 10:
                return now.runningGuns();
            case 11:
                return now.book.count;
            case 12:
                return now.weather.wetAt(now.hour);
            case 13:
                return now.weather.coldAt(now.hour);
            default:
                throw new IllegalArgumentException("what is 0 to 13");
        }
    }

    public int slope(int s, int what) throws IndexOutOfBoundsException, IllegalArgumentException {
        needSlope(s);
        Slope slope = now.slopes[s];
        switch (what) {
            case 0:
                return slope.area;
            case 1:
                return slope.rank;
            case 2:
                return slope.target;
            case 3:
                return slope.snow;
            case 4:
                return slope.depth();
            case 5:
                return slope.isReady() ? 1 : 0;
            case 6:
                return now.gunsAt(s);
            default:
                throw new IllegalArgumentException("what is 0 to 6");
        }
    }

    public int gun(int g, int what) throws IndexOutOfBoundsException, IllegalArgumentException {
        needGun(g);
        Gun gun = now.guns[g];
        switch (what) {
            case 0:
                return gun.slope;
            case 1:
                return gun.nozzle;
            case 2:
                return gun.allowed ? 1 : 0;
            case 3:
                return gun.stage;
            case 4:
                return gun.made;
            case 5:
                return gun.ran;
            default:
                throw new IllegalArgumentException("what is 0 to 5");
        }
    }

    public int account(int what) throws IllegalArgumentException {
        switch (what) {
            case 0:
                return now.water.came;
            case 1:
                return now.water.air;
            case 2:
                return now.water.ground;
            case 3:
                return now.water.melted;
            case 4:
                return now.allSnow();
            case 5:
                return now.water.spilled;
            default:
                throw new IllegalArgumentException("what is 0 to 5");
        }
    }

    public int book(int j, int what) throws IllegalArgumentException {
        if (j < 0 || what < 0 || what > 1) {
            throw new IllegalArgumentException("j is 0 or more, what is 0 or 1");
        }
        if (j >= now.book.count) {
            return NONE;
        }
        int entry = now.book.count - 1 - j;
        return what == 0 ? now.book.slopes[entry] : now.book.hours[entry];
    }

    public int wet(int hour) throws IllegalArgumentException {
        if (hour < 0 || hour > 9999) {
            throw new IllegalArgumentException("an hour is 0 to 9999");
        }
        return now.weather.wetAt(hour);
    }

    // ---- actions

    public int pass(int m) throws IllegalArgumentException {
        needHours(m);
        history.remember(now);
        int before = now.allMade();
        hours.passMany(now, m);
        return now.allMade() - before;
    }

    public int set(int what, int v) throws IllegalArgumentException {
        if (!isSetting(what, v)) {
            throw new IllegalArgumentException("what is 0 to 3, v is in its range");
        }
        history.remember(now);
        return now.water.change(what, v);
    }

    public int fill(int units) throws IllegalArgumentException {
        if (units < 1 || units > 9999) {
            throw new IllegalArgumentException("units are 1 to 9999");
        }
        history.remember(now);
        return now.water.bringIn(units);
    }

    public int setWet(int i, int v) throws IllegalArgumentException {
        if (i < 0 || i >= now.weather.count || v < -9 || v > 9) {
            throw new IllegalArgumentException("i is 0 to W - 1, v is -9 to 9");
        }
        history.remember(now);
        int before = now.weather.wets[i];
        now.weather.wets[i] = v;
        return before;
    }

    public int setSlope(int s, int what, int v) throws IndexOutOfBoundsException, IllegalArgumentException {
        needSlope(s);
        if (what < 1 || what > 2 || v < 0 || v > (what == 1 ? 9 : 99)) {
            throw new IllegalArgumentException("what is 1 or 2, v is in its range");
        }
        history.remember(now);
        Slope slope = now.slopes[s];
        int before = what == 1 ? slope.rank : slope.target;
        if (what == 1) {
            slope.rank = v;
        } else {
            slope.target = v;
        }
        return before;
    }

    public int addSlope(int area, int rank, int target) throws IllegalArgumentException, IllegalStateException {
        if (area < 1 || area > 9 || rank < 0 || rank > 9 || target < 0 || target > 99) {
            throw new IllegalArgumentException("area is 1 to 9, rank 0 to 9, target 0 to 99");
        }
        if (now.slopeCount >= MOST_SLOPES) {
            throw new IllegalStateException("there are 6 slopes");
        }
        history.remember(now);
        now.putSlope(area, rank, target);
        return now.slopeCount - 1;
    }

    public int removeSlope(int s) throws IndexOutOfBoundsException, IllegalStateException {
        needSlope(s);
        if (now.gunsAt(s) > 0) {
            throw new IllegalStateException("the slope has guns");
        }
        history.remember(now);
        return now.dropSlope(s);
    }

    public int addGun(int s, int nozzle)
            throws IndexOutOfBoundsException, IllegalArgumentException, IllegalStateException {
        needSlope(s);
        needNozzle(nozzle);
        if (now.gunCount >= MOST_GUNS) {
            throw new IllegalStateException("there are 8 guns");
        }
        history.remember(now);
        now.putGun(s, nozzle);
        return now.gunCount - 1;
    }

    public int bring(int g, int s) throws IndexOutOfBoundsException {
        needGun(g);
        needSlope(s);
        history.remember(now);
        return now.guns[g].moveTo(s);
    }

    public int allow(int g, boolean allowed) throws IndexOutOfBoundsException {
        needGun(g);
        history.remember(now);
        now.guns[g].allowed = allowed;
        return now.allowedGuns();
    }

    public int undo() throws IllegalStateException {
        if (!history.takeBack(now)) {
            throw new IllegalStateException("no state is remembered");
        }
        return history.count;
    }

    // ---- guns

    public int whyNot(int g) throws IndexOutOfBoundsException {
        needGun(g);
        return reasonNext(now, g);
    }

    public int order(int i) throws IllegalArgumentException {
        if (i < 0) {
            throw new IllegalArgumentException("i is 0 or more");
        }
        if (i >= now.gunCount) {
            return NONE;
        }
        hours.makeOrder(now);
        return hours.gunAt(i);
    }

    // ---- forecasts

    public int ahead(int m, int what) throws IllegalArgumentException {
        if (m < 0 || m > 99 || what < 0 || what > 4) {
            throw new IllegalArgumentException("m is 0 to 99, what is 0 to 4");
        }
        trial.copyFrom(now);
        hours.passMany(trial, m);
        switch (what) {
            case 0:
                return trial.allSnow();
            case 1:
                return trial.water.pond;
            case 2:
                return trial.readySlopes();
            case 3:
                return trial.allMade() - now.allMade();
            default:
                return trial.water.melted - now.water.melted;
        }
    }

    public int readyAfter(int s) throws IndexOutOfBoundsException {
        needSlope(s);
        trial.copyFrom(now);
        for (int m = 0; m <= MOST_AHEAD; m++) {
            if (trial.slopes[s].isReady()) {
                return m;
            }
            hours.passOne(trial);
        }
        return NONE;
    }

    public int bestPlace(int nozzle, int m) throws IllegalArgumentException {
        needNozzle(nozzle);
        needHours(m);
        int best = NONE;
        int mostReady = -1;
        int mostSnow = -1;
        for (int s = 0; s < now.slopeCount; s++) {
            trial.copyFrom(now);
            trial.putGun(s, nozzle);
            hours.passMany(trial, m);
            int ready = trial.readySlopes();
            int snow = trial.allSnow();
            if (ready > mostReady || ready == mostReady && snow > mostSnow) {
                best = s;
                mostReady = ready;
                mostSnow = snow;
            }
        }
        return best;
    }

    public int missing(int m) throws IllegalArgumentException {
        needHours(m);
        int best = 0;
        int mostReady = -1;
        // what is above the room in the pond does not come in, so that more units lead to nothing else
        int most = Math.min(990, now.water.settings[CAPACITY] - now.water.pond + 9);
        for (int units = 0; units <= most && mostReady < now.slopeCount; units += 10) {
            int ready = readyWith(units, m);
            if (ready > mostReady) {
                best = units;
                mostReady = ready;
            }
        }
        return best;
    }

    public int coldest(int n) throws IllegalArgumentException {
        if (n < 1 || n > 24) {
            throw new IllegalArgumentException("n is 1 to 24");
        }
        int best = 0;
        int mostCold = -1;
        for (int first = 0; first < 24; first++) {
            int cold = 0;
            for (int i = 0; i < n; i++) {
                cold += now.weather.coldAt(now.hour + first + i);
            }
            if (cold > mostCold) {
                best = first;
                mostCold = cold;
            }
        }
        return best;
    }

    // ---- scripts, simulations

    public int runScript(int n, long script) throws IllegalArgumentException {
        if (n < 1 || n > 3 || script < 0 || groupAt(script, n) != 0) {
            throw new IllegalArgumentException("n is 1 to 3, a script has at most 5 * n digits");
        }
        trial.copyFrom(now);
        for (int i = 0; i < n; i++) {
            int group = (int) (groupAt(script, n - 1 - i) % GROUP);
            boolean good = group / 10000 < 7 ? changesTrial(group) : holdsInTrial(group);
            if (!good) {
                return i;
            }
        }
        return NONE;
    }

    public int simulate(long seed, int m) throws IllegalArgumentException {
        needHours(m);
        trial.copyFrom(now);
        long x = seed;
        for (int i = 0; i < m; i++) {
            x = x * 6364136223846793005L + 1442695040888963407L;
            disturb((int) (x >>> 33));
            hours.passOne(trial);
        }
        return 10 * trial.allSnow() + trial.readySlopes();
    }

    // ---- save slots

    public int save(int slot) throws IndexOutOfBoundsException {
        needSlot(slot);
        slots[slot].copyFrom(now);
        saved[slot] = true;
        return now.hour;
    }

    public int restore(int slot) throws IndexOutOfBoundsException, IllegalStateException {
        needSlot(slot);
        if (!saved[slot]) {
            throw new IllegalStateException("nothing has been saved in this slot");
        }
        now.copyFrom(slots[slot]);
        history.forget();
        return now.hour;
    }

    // ---- what several calls need

    private void needSlope(int s) {
        if (!now.hasSlope(s)) {
            throw new IndexOutOfBoundsException("there is no such slope");
        }
    }

    private void needGun(int g) {
        if (!now.hasGun(g)) {
            throw new IndexOutOfBoundsException("there is no such gun");
        }
    }

    private static void needSlot(int slot) {
        if (slot < 0 || slot >= MOST_SLOTS) {
            throw new IndexOutOfBoundsException("a save slot is 0 or 1");
        }
    }

    private static void needNozzle(int nozzle) {
        if (nozzle < 0 || nozzle > 3) {
            throw new IllegalArgumentException("a nozzle is 0 to 3");
        }
    }

    private static void needHours(int m) {
        if (m < 1 || m > 99) {
            throw new IllegalArgumentException("m is 1 to 99");
        }
    }

    private static boolean isSetting(int what, int v) {
        return what >= 0 && what < MOST_OF_SETTING.length && v >= 0 && v <= MOST_OF_SETTING[what];
    }

    private int reasonNext(State state, int g) {
        probe.copyFrom(state);
        hours.passOne(probe);
        return hours.reasons[g];
    }

    private int readyWith(int units, int m) {
        trial.copyFrom(now);
        trial.water.bringIn(units);
        hours.passMany(trial, m);
        return trial.readySlopes();
    }

    /** The script without its lowest groups. */
    private static long groupAt(long script, int groups) {
        long rest = script;
        for (int i = 0; i < groups; i++) {
            rest /= GROUP;
        }
        return rest;
    }

    /** Does a command 1 to 6; false if it fails. */
    private boolean changesTrial(int group) {
        int second = group / 1000 % 10;
        int third = group / 100 % 10;
        int fourth = group / 10 % 10;
        int last = group % 10;
        int lastTwo = group % 100;
        switch (group / 10000) {
            case 1:
                if (second != 0 || third != 0 || lastTwo == 0) {
                    return false;
                }
                hours.passMany(trial, lastTwo);
                return true;
            case 2:
                if (second != 0 || group % 1000 == 0) {
                    return false;
                }
                trial.water.bringIn(group % 1000);
                return true;
            case 3:
                if (third != 0 || !isSetting(second, lastTwo)) {
                    return false;
                }
                trial.water.change(second, lastTwo);
                return true;
            case 4:
                if (third != 0 || fourth != 0 || !trial.hasGun(second) || !trial.hasSlope(last)) {
                    return false;
                }
                trial.guns[second].moveTo(last);
                return true;
            case 5:
                if (third != 0 || fourth != 0 || !trial.hasGun(second) || last > 1) {
                    return false;
                }
                trial.guns[second].allowed = last == 1;
                return true;
            case 6:
                if (third != 0 || !trial.hasSlope(second)) {
                    return false;
                }
                trial.slopes[second].target = lastTwo;
                return true;
            default:
                return false;
        }
    }

    /** Answers a command 7 to 9; false if it fails. */
    private boolean holdsInTrial(int group) {
        int second = group / 1000 % 10;
        int third = group / 100 % 10;
        int fourth = group / 10 % 10;
        int last = group % 10;
        switch (group / 10000) {
            case 7:
                return third == 0 && trial.hasSlope(second) && trial.slopes[second].depth() >= group % 100;
            case 8:
                return second == 0 && third == 0 && fourth == 0 && trial.readySlopes() == last;
            case 9:
                return third == 0 && fourth == 0 && trial.hasGun(second) && reasonNext(trial, second) == last;
            default:
                return false;
        }
    }

    /** What a simulation's number r does to the copy before the hour passes. */
    private void disturb(int r) {
        if (r % 8 == 0) {
            trial.weather.change(r / 8, r / 256 % 19 - 9);
        } else if (r % 8 == 1) {
            trial.water.bringIn(1 + r / 8 % 100);
        }
    }

    private static final class Slope {
        int area;
        int rank;
        int target;
        int snow;

        void copyFrom(Slope other) {
            area = other.area;
            rank = other.rank;
            target = other.target;
            snow = other.snow;
        }

        int depth() {
            return area < 1 ? 0 : snow / area;
        }

        /** Says that the depth is at least the target, without the division. */
        boolean isReady() {
            return snow >= target * area;
        }

        /** Takes snow up to the most that lies; answers what is above it. */
        int takeSnow(int units) {
            int all = snow + units;
            snow = all < MOST_SNOW ? all : MOST_SNOW;
            return all - snow;
        }
    }

    private static final class Gun {
        int slope;
        int nozzle;
        boolean allowed;
        int stage;
        int made;
        int ran;

        void copyFrom(Gun other) {
            slope = other.slope;
            nozzle = other.nozzle;
            allowed = other.allowed;
            stage = other.stage;
            made = other.made;
            ran = other.ran;
        }

        void begin(int s, int k) {
            slope = s;
            nozzle = k;
            allowed = true;
            stage = COLD;
            made = 0;
            ran = 0;
        }

        int moveTo(int s) {
            int before = slope;
            slope = s;
            stage = COLD;
            return before;
        }
    }

    /** The pump, the pond and the accounts; what is in the pond is never more than the capacity. */
    private static final class Water {
        final int[] settings = new int[MOST_OF_SETTING.length];
        int pond;
        int came;
        int air;
        int ground;
        int melted;
        int spilled;

        void copyFrom(Water other) {
            System.arraycopy(other.settings, 0, settings, 0, settings.length);
            pond = other.pond;
            came = other.came;
            air = other.air;
            ground = other.ground;
            melted = other.melted;
            spilled = other.spilled;
        }

        void begin(int pump, int capacity, int inflow, int loss) {
            settings[PUMP] = pump;
            settings[CAPACITY] = capacity;
            settings[INFLOW] = inflow;
            settings[LOSS] = loss;
            pond = capacity;
            came = capacity;
            air = 0;
            ground = 0;
            melted = 0;
            spilled = 0;
        }

        /** Changes a setting that isSetting has let through; answers the previous number. */
        int change(int what, int v) {
            int before = settings[what];
            settings[what] = v;
            int rest = Math.max(0, pond - settings[CAPACITY]);
            pond -= rest;
            spilled += rest;
            return before;
        }

        /** Takes water into the pond as far as the capacity allows; answers how much. */
        int takeIn(int units) {
            int room = settings[CAPACITY] - pond;
            int taken = units < room ? units : room;
            pond += taken;
            return taken;
        }

        /** Takes in water that comes from outside. */
        int bringIn(int units) {
            int taken = takeIn(units);
            came += taken;
            return taken;
        }

        void takeMelted(int units) {
            melted += units;
            ground += units - takeIn(units / 2);
        }

        /** What of a gun's use is lost in the air, rounded up. */
        int lossOf(int use) {
            return (use * settings[LOSS] + 99) / 100;
        }
    }

    private static final class Weather {
        final int[] wets = new int[MOST_WETS];
        int count;

        void copyFrom(Weather other) {
            System.arraycopy(other.wets, 0, wets, 0, wets.length);
            count = other.count;
        }

        void put(int v) {
            if (count < wets.length) {
                wets[count] = v;
                count++;
            }
        }

        int wetAt(int hour) {
            return hour < 0 || count < 1 ? 0 : wets[hour % count];
        }

        void change(int hour, int v) {
            if (hour >= 0 && count >= 1) {
                wets[hour % count] = v;
            }
        }

        int coldAt(int hour) {
            int wet = wetAt(hour);
            if (wet > -2) {
                return 0;
            }
            if (wet >= -4) {
                return 1;
            }
            return wet >= -7 ? 2 : 3;
        }
    }

    /** The slopes that became ready, the latest entry last. */
    private static final class Book {
        final int[] slopes = new int[MOST_ENTRIES];
        final int[] hours = new int[MOST_ENTRIES];
        int count;

        void copyFrom(Book other) {
            System.arraycopy(other.slopes, 0, slopes, 0, slopes.length);
            System.arraycopy(other.hours, 0, hours, 0, hours.length);
            count = other.count;
        }

        void enter(int slope, int hour) {
            if (count >= MOST_ENTRIES) {
                System.arraycopy(slopes, 1, slopes, 0, MOST_ENTRIES - 1);
                System.arraycopy(hours, 1, hours, 0, MOST_ENTRIES - 1);
                count = MOST_ENTRIES - 1;
            }
            slopes[count] = slope;
            hours[count] = hour;
            count++;
        }

        void dropSlope(int slope) {
            int kept = 0;
            for (int i = 0; i < count; i++) {
                if (slopes[i] != slope) {
                    slopes[kept] = slopes[i] > slope ? slopes[i] - 1 : slopes[i];
                    hours[kept] = hours[i];
                    kept++;
                }
            }
            count = kept;
        }
    }

    /** Everything but the text and the save slots; all rows are made once and copied into. */
    private static final class State {
        final Slope[] slopes = new Slope[MOST_SLOPES];
        final Gun[] guns = new Gun[GUN_ROWS];
        final Water water = new Water();
        final Weather weather = new Weather();
        final Book book = new Book();
        int slopeCount;
        int gunCount;
        int hour;

        State() {
            for (int s = 0; s < MOST_SLOPES; s++) {
                slopes[s] = new Slope();
            }
            for (int g = 0; g < GUN_ROWS; g++) {
                guns[g] = new Gun();
            }
        }

        void copyFrom(State other) {
            slopeCount = other.slopeCount;
            for (int s = 0; s < slopeCount; s++) {
                slopes[s].copyFrom(other.slopes[s]);
            }
            gunCount = other.gunCount;
            for (int g = 0; g < gunCount; g++) {
                guns[g].copyFrom(other.guns[g]);
            }
            water.copyFrom(other.water);
            weather.copyFrom(other.weather);
            book.copyFrom(other.book);
            hour = other.hour;
        }

        /** Begins anew without slopes, guns and weather. */
        void begin(int pump, int capacity, int inflow, int loss) {
            water.begin(pump, capacity, inflow, loss);
            weather.count = 0;
            book.count = 0;
            slopeCount = 0;
            gunCount = 0;
            hour = 0;
        }

        boolean hasSlope(int s) {
            return s >= 0 && s < slopeCount;
        }

        boolean hasGun(int g) {
            return g >= 0 && g < gunCount;
        }

        void putSlope(int area, int rank, int target) {
            if (slopeCount < MOST_SLOPES) {
                Slope slope = slopes[slopeCount];
                slope.area = area;
                slope.rank = rank;
                slope.target = target;
                slope.snow = 0;
                slopeCount++;
            }
        }

        void putGun(int s, int nozzle) {
            if (gunCount < GUN_ROWS) {
                guns[gunCount].begin(s, nozzle);
                gunCount++;
            }
        }

        /** Removes a slope without guns; answers the snow that goes with it. */
        int dropSlope(int s) {
            int gone = slopes[s].snow;
            for (int i = s; i < slopeCount - 1; i++) {
                slopes[i].copyFrom(slopes[i + 1]);
            }
            slopeCount--;
            for (int g = 0; g < gunCount; g++) {
                if (guns[g].slope > s) {
                    guns[g].slope--;
                }
            }
            book.dropSlope(s);
            water.spilled += gone;
            return gone;
        }

        /** The slope of a gun; no state holds a gun elsewhere, but the number is looked at all the same. */
        Slope slopeOf(Gun gun) {
            return slopes[hasSlope(gun.slope) ? gun.slope : 0];
        }

        int gunsAt(int s) {
            int found = 0;
            for (int g = 0; g < gunCount; g++) {
                if (guns[g].slope == s) {
                    found++;
                }
            }
            return found;
        }

        int allowedGuns() {
            int found = 0;
            for (int g = 0; g < gunCount; g++) {
                if (guns[g].allowed) {
                    found++;
                }
            }
            return found;
        }

        int runningGuns() {
            int found = 0;
            for (int g = 0; g < gunCount; g++) {
                if (guns[g].stage == RUNNING) {
                    found++;
                }
            }
            return found;
        }

        int allMade() {
            int sum = 0;
            for (int g = 0; g < gunCount; g++) {
                sum += guns[g].made;
            }
            return sum;
        }

        int readySlopes() {
            int found = 0;
            for (int s = 0; s < slopeCount; s++) {
                if (slopes[s].isReady()) {
                    found++;
                }
            }
            return found;
        }

        int allSnow() {
            int sum = 0;
            for (int s = 0; s < slopeCount; s++) {
                sum += slopes[s].snow;
            }
            return sum;
        }
    }

    /** Lets hours pass in a state; its rows are made once and used for every hour. */
    private static final class Hours {
        private final int[] keys = new int[GUN_ROWS];
        /** Of the last hour that passed. */
        final int[] reasons = new int[GUN_ROWS];
        private final boolean[] wasReady = new boolean[MOST_SLOPES];

        void passMany(State state, int m) {
            for (int i = 0; i < m; i++) {
                passOne(state);
            }
        }

        void passOne(State state) {
            for (int s = 0; s < state.slopeCount; s++) {
                wasReady[s] = state.slopes[s].isReady();
            }
            state.water.bringIn(state.water.settings[INFLOW]);
            makeOrder(state);
            useGuns(state);
            melt(state);
            state.hour++;
            enterReady(state);
        }

        /** Rank, depth and number make one key, so that the order of the guns is that of the keys. */
        void makeOrder(State state) {
            for (int g = 0; g < state.gunCount; g++) {
                Slope slope = state.slopeOf(state.guns[g]);
                int key = ((9 - slope.rank) * (MOST_SNOW + 1) + slope.depth()) * GUN_ROWS + g;
                int at = g;
                while (at > 0 && keys[at - 1] > key) {
                    keys[at] = keys[at - 1];
                    at--;
                }
                keys[at] = key;
            }
        }

        /** The gun at a place of the order that was made. */
        int gunAt(int i) {
            return keys[i] % GUN_ROWS;
        }

        private void useGuns(State state) {
            int cold = state.weather.coldAt(state.hour);
            int left = state.water.settings[PUMP];
            for (int i = 0; i < state.gunCount; i++) {
                int g = gunAt(i);
                Gun gun = state.guns[g];
                Slope slope = state.slopeOf(gun);
                int use = (gun.nozzle + 1) * cold;
                reasons[g] = reasonOf(gun, slope, use, left, state.water.pond);
                if (reasons[g] == 0) {
                    left -= use;
                    useGun(gun, slope, use, state.water);
                } else {
                    gun.stage = COLD;
                }
            }
        }

        /** The use is 0 only if the cold is 0. */
        private static int reasonOf(Gun gun, Slope slope, int use, int left, int pond) {
            if (!gun.allowed) {
                return 1;
            }
            if (use == 0) {
                return 2;
            }
            if (slope.isReady()) {
                return 3;
            }
            if (use > left) {
                return 4;
            }
            return use > pond ? 5 : 0;
        }

        private static void useGun(Gun gun, Slope slope, int use, Water water) {
            water.pond -= use;
            if (gun.stage == COLD) {
                gun.stage = WARMING;
                water.air += use;
                return;
            }
            int lost = water.lossOf(use);
            int snow = use - lost;
            gun.stage = RUNNING;
            gun.made += snow;
            gun.ran++;
            water.air += lost + slope.takeSnow(snow);
        }

        private static void melt(State state) {
            int wet = state.weather.wetAt(state.hour);
            if (wet <= 0) {
                return;
            }
            for (int s = 0; s < state.slopeCount; s++) {
                Slope slope = state.slopes[s];
                int melted = Math.min(slope.snow, wet * slope.area);
                slope.snow -= melted;
                state.water.takeMelted(melted);
            }
        }

        private void enterReady(State state) {
            for (int s = 0; s < state.slopeCount; s++) {
                if (state.slopes[s].isReady() && !wasReady[s]) {
                    state.book.enter(s, state.hour);
                }
            }
        }
    }

    /** The remembered states, in a ring of rows that are made once. */
    private static final class History {
        private final State[] states = new State[MOST_STATES];
        private int next;
        int count;

        History() {
            for (int i = 0; i < MOST_STATES; i++) {
                states[i] = new State();
            }
        }

        void forget() {
            count = 0;
        }

        void remember(State state) {
            states[next].copyFrom(state);
            next = next + 1 < MOST_STATES ? next + 1 : 0;
            count = Math.min(count + 1, MOST_STATES);
        }

        boolean takeBack(State state) {
            if (count < 1) {
                return false;
            }
            next = next > 0 ? next - 1 : MOST_STATES - 1;
            count--;
            state.copyFrom(states[next]);
            return true;
        }
    }

    /** The text, read from left to right; at is the place of the first sign that has not been read. */
    private static final class TextBuffer {
        private static final int HEAD = 10;
        private static final int SLOPE_SIGNS = 5;
        private static final int GUN_SIGNS = 3;
        private static final int WET_SIGNS = 2;

        private final char[] signs = new char[MOST_SIGNS];
        int length;
        int at;
        private int slopes;
        private int guns;
        private int wets;

        boolean put(int c) {
            if (length >= MOST_SIGNS) {
                return false;
            }
            signs[length] = (char) c;
            length++;
            return true;
        }

        /** Behind the end there is no sign, so that a text that ends too soon stops the reading there. */
        private int signAt(int i) {
            return i >= 0 && i < length ? signs[i] : NONE;
        }

        private boolean take(int first, int last) {
            int sign = signAt(at);
            if (sign < first || sign > last) {
                return false;
            }
            at++;
            return true;
        }

        /** Reads the whole text; if it is not good, at is the error position. */
        boolean isGood() {
            at = 0;
            return takeHead() && takeSlopes() && takeGuns() && takeWeather() && at == length;
        }

        private boolean takeHead() {
            if (!take('P', 'P')) {
                return false;
            }
            for (int i = 0; i < 7; i++) {
                if (!take('0', '9')) {
                    return false;
                }
            }
            return take('5', '5') ? take('0', '0') : take('0', '4') && take('0', '9');
        }

        private boolean takeSlopes() {
            slopes = 0;
            while (slopes < MOST_SLOPES && take('s', 's')) {
                if (!take('1', '9') || !take('0', '9') || !take('0', '9') || !take('0', '9')) {
                    return false;
                }
                slopes++;
            }
            return slopes > 0;
        }

        private boolean takeGuns() {
            guns = 0;
            while (guns < MOST_GUNS && take('g', 'g')) {
                if (!take('0', '0' + slopes - 1) || !take('0', '3')) {
                    return false;
                }
                guns++;
            }
            return true;
        }

        private boolean takeWeather() {
            if (!take('w', 'w')) {
                return false;
            }
            wets = 0;
            while (wets < MOST_WETS && (take('+', '+') || take('-', '-'))) {
                if (!take('0', '9')) {
                    return false;
                }
                wets++;
            }
            return wets > 0;
        }

        private int number(int from, int digits) {
            int all = 0;
            for (int i = 0; i < digits; i++) {
                all = all * 10 + signAt(from + i) - '0';
            }
            return all;
        }

        /** Fills a state with what a text tells that isGood has just read. */
        void fillState(State state) {
            state.begin(number(1, 2), number(3, 4), number(7, 1), number(8, 2));
            int from = HEAD;
            for (int i = 0; i < slopes; i++) {
                state.putSlope(number(from + 1, 1), number(from + 2, 1), number(from + 3, 2));
                from += SLOPE_SIGNS;
            }
            for (int i = 0; i < guns; i++) {
                state.putGun(number(from + 1, 1), number(from + 2, 1));
                from += GUN_SIGNS;
            }
            from++;
            for (int i = 0; i < wets; i++) {
                int wet = number(from + 1, 1);
                state.weather.put(signAt(from) == '-' ? -wet : wet);
                from += WET_SIGNS;
            }
        }
    }
}
