import java.util.Arrays;

/** Who puts out the light, when, and what it costs whom. */
public final class LastAwake {
    public static final int NONE = -1, BAD = -2, NO = -3, FULL = -4;

    private static final int BAD_TEN = -10;
    private static final int BAD_ABOUT = -100000;
    private static final int NOT_SO_MANY = -5;

    private static final int MOST_SIDE = 7;
    private static final int MOST_CELLS = 49;
    private static final int MOST_THINGS = 9;
    private static final int MOST_SLEEPERS = 4;
    private static final int MOST_NOTES = 8;
    private static final int MOST_UNDONE = 8;
    private static final int MOST_BYTES = 150;
    private static final int MOST_PASSED = 30;
    private static final int MOST_NIGHTS = 60;
    private static final int MOST_TURNS = 6;
    private static final int MOST_MINUTE = 120;
    private static final int IMAGES = 2;
    private static final int COUNTED = 10;

    private static final int BURNT_OUT = 300;
    private static final int TURN_MINUTE = 60;
    private static final int CHOICES = 7;

    /* Above each count, cost and way that there can be. */
    private static final int BEYOND = 1000000000;

    /* What is told of a sleeper, by the numbers that become() uses; COUNT and PAID come behind, as in digest(). */
    private static final int KIND = 0, READS = 1, HATES = 2, COLD = 3, PATIENCE = 4, UP = 5, COUNT = 6, PAID = 7;
    private static final int TRAITS = 8;
    private static final int[] MOST_OF_TRAIT = {5, 120, 9, 20, 60, 120};

    private static final int FAIR = 1, STUBBORN = 2, GIVER = 3, SHAMMER = 4, READER = 5;

    private final State state = new State();
    /* What-ifs are played on a copy, so that asking changes nothing. */
    private final State trial = new State();
    /* Null: none was kept yet. */
    private final State[] images = new State[IMAGES];
    private final Script script = new Script();
    private final int[] refused = new int[3];
    private final int[][] costsOfOne = new int[CHOICES][CHOICES];
    private final int[][] costsOfOther = new int[CHOICES][CHOICES];
    private long above = 0;
    private long below = 1;

    public LastAwake() {
    }

    // ---- a room

    public int room(int w, int h) {
        if (!within(w, 1, MOST_SIDE) || !within(h, 1, MOST_SIDE)) {
            return bad(BAD);
        }
        state.startAnew(w, h);
        return 1;
    }

    public int place(int what, int cell) {
        Floor floor = state.floor;
        if (!within(what, 0, 1) || !floor.has(cell)) {
            return bad(BAD);
        }
        int was = what == 0 ? floor.switchCell : floor.bedCell;
        if (what == 0) {
            floor.putSwitch(cell);
        } else {
            floor.putBed(cell);
        }
        return was;
    }

    public int things(int cell, int n) {
        Floor floor = state.floor;
        if (!floor.has(cell) || !within(n, 0, MOST_THINGS)) {
            return bad(BAD);
        }
        int was = floor.things[cell];
        floor.putThings(cell, n);
        return was;
    }

    public int moon(int columns) {
        if (!within(columns, 0, (1 << MOST_SIDE) - 1)) {
            return bad(BAD);
        }
        int was = state.floor.moonlit;
        state.floor.shineOn(columns);
        return was;
    }

    public int cord(int is) {
        if (!within(is, 0, 1)) {
            return bad(BAD);
        }
        int was = state.floor.cords;
        state.floor.cords = is;
        return was;
    }

    public int sleeper(int kind, int reads, int hates, int cold, int patience) {
        if (!fitsTrait(KIND, kind) || !fitsTrait(READS, reads) || !fitsTrait(HATES, hates)
                || !fitsTrait(COLD, cold) || !fitsTrait(PATIENCE, patience)) {
            return bad(BAD);
        }
        if (state.beds.size >= MOST_SLEEPERS) {
            return full();
        }
        return state.beds.welcome(kind, reads, hates, cold, patience);
    }

    public int become(int sleeper, int what, int v) {
        if (!state.beds.has(sleeper) || !within(what, KIND, UP) || !fitsTrait(what, v)) {
            return bad(BAD_TEN);
        }
        int[] traits = state.beds.sleepers[sleeper].traits;
        int was = traits[what];
        traits[what] = v;
        return was;
    }

    public int type(int c) {
        if (!within(c, 0, 127)) {
            return bad(BAD);
        }
        if (script.length >= MOST_BYTES) {
            return full();
        }
        script.append(c);
        return script.length;
    }

    public int clear() {
        int had = script.length;
        script.length = 0;
        return had;
    }

    public int read() {
        int answer = script.tellRoom(trial);
        if (answer >= 0) {
            state.copyFrom(trial);
        }
        return answer;
    }

    // ---- nights

    public int pass(int n) {
        if (!within(n, 1, MOST_PASSED)) {
            return bad(BAD);
        }
        int putOut = 0;
        for (int i = 0; i < n; i++) {
            if (state.spendNight() != NONE) {
                putOut++;
            }
        }
        return putOut;
    }

    public int undo() {
        if (state.beds.undoable == 0) {
            return no();
        }
        state.beds.forgetNight();
        return 1;
    }

    public int about(int sleeper, int what) {
        Beds beds = state.beds;
        if (!beds.has(sleeper) || !within(what, 0, 3)) {
            return bad(BAD_ABOUT);
        }
        switch (what) {
            case 0: return beds.sleepers[sleeper].traits[COUNT];
            case 1: return beds.sleepers[sleeper].traits[PAID];
            case 2: return beds.sleepers[sleeper].waits(beds.leastCount());
            default: return beds.feltBy(sleeper);
        }
    }

    public int way(int from, int to) {
        if (!state.floor.has(from) || !state.floor.has(to)) {
            return bad(BAD);
        }
        return state.floor.wayBetween(from, to);
    }

    public int bed() {
        return state.floor.nearestBed();
    }

    public int tonight(int what) {
        if (!within(what, 0, 2)) {
            return bad(BAD);
        }
        state.foresee();
        Night night = state.night;
        switch (what) {
            case 0: return night.minute;
            case 1: return night.putOutBy;
            default: return night.anyhow ? 1 : 0;
        }
    }

    public int cost(int sleeper) {
        if (!state.beds.has(sleeper)) {
            return bad(BAD);
        }
        state.foresee();
        return state.costTonight(sleeper);
    }

    public int foretold(int n, int sleeper, int what) {
        if (!within(n, 0, MOST_NIGHTS) || (sleeper != NONE && !state.beds.has(sleeper)) || !within(what, 0, 1)) {
            return bad(BAD);
        }
        trial.copyFrom(state);
        for (int i = 0; i < n; i++) {
            trial.spendNight();
        }
        int trait = what == 0 ? COUNT : PAID;
        if (sleeper == NONE) {
            return trial.beds.sum(trait);
        }
        return trial.beds.sleepers[sleeper].traits[trait];
    }

    // ---- what to do

    public int worth(int price) {
        if (!within(price, 0, 9999)) {
            return bad(BAD);
        }
        trial.copyFrom(state);
        int saved = 0;
        for (int n = 0; n <= MOST_NIGHTS; n++) {
            if (saved >= price) {
                return n;
            }
            trial.spendNight();
            // A cord changes neither who puts it out nor when, so it saves just what getting up would cost.
            saved += trial.errandTonight();
        }
        return NONE;
    }

    public int reading(int sleeper) {
        if (!state.beds.has(sleeper)) {
            return bad(BAD);
        }
        trial.copyFrom(state);
        int best = 0;
        int most = joyOfReading(sleeper, 0);
        for (int minute = 1; minute <= MOST_MINUTE; minute++) {
            int joy = joyOfReading(sleeper, minute);
            if (joy > most) {
                most = joy;
                best = minute;
            }
        }
        return best;
    }

    public int waiting(int a, int b, int what) {
        if (!state.beds.has(a) || !state.beds.has(b) || a == b || !within(what, 0, 1)) {
            return bad(BAD_TEN);
        }
        fillCosts(a, b);
        int pairs = 0;
        int first = NONE;
        for (int i = 0; i < CHOICES; i++) {
            for (int j = 0; j < CHOICES; j++) {
                if (pairRests(i, j)) {
                    first = pairs == 0 ? 10 * i + j : first;
                    pairs++;
                }
            }
        }
        return what == 0 ? pairs : first;
    }

    public int turns(int n, int i) {
        if (!within(n, 0, MOST_TURNS) || i < NONE) {
            return bad(BAD_TEN);
        }
        if (state.beds.size == 0) {
            return NONE;
        }
        if (i >= n) {
            return NOT_SO_MANY;
        }
        state.floor.measureWalk();
        int least = state.leastOfTurns(n);
        return i == NONE ? least : state.whoseTurn(n, least, i);
    }

    // ---- by odds

    public int shoe(int p, int k, int what) {
        if (!within(p, 0, 10) || !within(k, 0, 9) || !within(what, 0, 1)) {
            return bad(BAD);
        }
        long all = 1;
        long missed = 1;
        long throwsMade = 0;
        for (int i = 0; i < k; i++) {
            throwsMade = 10 * (throwsMade + missed);
            missed *= 10 - p;
            all *= 10;
        }
        setFraction(what == 0 ? all - missed : throwsMade, all);
        return 1;
    }

    public int clap(int p, int q, int m) {
        if (!within(p, 0, 10) || !within(q, 0, 10) || !within(m, 0, 8)) {
            return bad(BAD);
        }
        long all = 1;
        long on = 1;
        for (int i = 0; i < m; i++) {
            on = turnedAbout(on, all, p);
            all *= 10;
            on = turnedAbout(on, all, q);
            all *= 10;
        }
        setFraction(on, all);
        return 1;
    }

    public int asleep(int a, int p, int q, int breaths, int n) {
        if (!within(a, 0, 10) || !within(p, 0, 10) || !within(q, 0, 10)
                || !within(n, 0, 6) || !within(breaths, 0, (1 << n) - 1)) {
            return bad(BAD);
        }
        long sleeps = a;
        long feigns = 10 - a;
        for (int i = 0; i < n; i++) {
            boolean even = (breaths >> i & 1) == 1;
            sleeps *= even ? p : 10 - p;
            feigns *= even ? q : 10 - q;
        }
        if (sleeps + feigns == 0) {
            return no();
        }
        setFraction(sleeps, sleeps + feigns);
        return 1;
    }

    public int note(int sleeper, int some) {
        if (!state.beds.has(sleeper) || !within(some, 0, (1 << state.beds.size) - 1)) {
            return bad(BAD);
        }
        if (state.notes.size >= MOST_NOTES) {
            return full();
        }
        return state.notes.write(sleeper, some);
    }

    public int burn() {
        int were = state.notes.size;
        state.notes.size = 0;
        return were;
    }

    public int who(int liars) {
        if (!within(liars, 0, MOST_SLEEPERS)) {
            return bad(BAD);
        }
        return state.notes.suspects(liars, state.beds.size);
    }

    public int drawn(int seed, int n, int sleeper) {
        if (!within(seed, 0, 999999) || !within(n, 0, MOST_NIGHTS) || !state.beds.has(sleeper)) {
            return bad(BAD);
        }
        trial.copyFrom(state);
        int before = trial.beds.sleepers[sleeper].traits[COUNT];
        long x = seed;
        for (int i = 0; i < n; i++) {
            x = trial.beds.drawUps(x);
            trial.spendNight();
        }
        return trial.beds.sleepers[sleeper].traits[COUNT] - before;
    }

    // ---- what there is

    public long part(int what) {
        if (!within(what, 0, 1)) {
            return bad(BAD);
        }
        return what == 0 ? above : below;
    }

    public int image(int i) {
        if (!within(i, 0, IMAGES - 1)) {
            return bad(BAD);
        }
        if (images[i] == null) {
            images[i] = new State();
        }
        images[i].copyFrom(state);
        return 1;
    }

    public int from(int i) {
        if (!within(i, 0, IMAGES - 1)) {
            return bad(BAD);
        }
        if (images[i] == null) {
            return no();
        }
        state.copyFrom(images[i]);
        return 1;
    }

    public int status(int what) {
        if (!within(what, 0, 2)) {
            return bad(NONE);
        }
        return refused[what];
    }

    public int count(int what) {
        if (!within(what, 0, COUNTED)) {
            return bad(BAD);
        }
        return howMany(what);
    }

    public long digest() {
        long h = 857;
        for (int what = 0; what <= COUNTED; what++) {
            h = 31 * h + howMany(what);
        }
        h = state.floor.mixInto(h);
        h = state.beds.mixInto(h);
        h = state.notes.mixInto(h);
        h = 31 * h + above;
        return 31 * h + below;
    }

    // ---- helpers

    private static boolean within(int v, int least, int most) {
        return v >= least && v <= most;
    }

    private static boolean fitsTrait(int what, int v) {
        return within(v, what == UP ? NONE : 0, MOST_OF_TRAIT[what]);
    }

    private int bad(int answer) {
        refused[0]++;
        return answer;
    }

    private int no() {
        refused[1]++;
        return NO;
    }

    private int full() {
        refused[2]++;
        return FULL;
    }

    private int howMany(int what) {
        switch (what) {
            case 0: return state.floor.w;
            case 1: return state.floor.h;
            case 2: return state.floor.switchCell;
            case 3: return state.floor.bedCell;
            case 4: return state.floor.moonlit;
            case 5: return state.floor.cords;
            case 6: return state.beds.size;
            case 7: return state.notes.size;
            case 8: return state.beds.nights;
            case 9: return state.beds.undoable;
            default: return script.length;
        }
    }

    /** What reading till a minute would be to one, on the trial copy. */
    private int joyOfReading(int sleeper, int minute) {
        trial.beds.sleepers[sleeper].traits[READS] = minute;
        trial.foresee();
        return 2 * Math.min(minute, trial.night.minute) - trial.costTonight(sleeper);
    }

    private void fillCosts(int a, int b) {
        trial.copyFrom(state);
        for (int i = 0; i < CHOICES; i++) {
            trial.beds.sleepers[a].traits[PATIENCE] = 10 * i;
            for (int j = 0; j < CHOICES; j++) {
                trial.beds.sleepers[b].traits[PATIENCE] = 10 * j;
                trial.foresee();
                costsOfOne[i][j] = trial.costTonight(a);
                costsOfOther[i][j] = trial.costTonight(b);
            }
        }
    }

    private boolean pairRests(int i, int j) {
        for (int other = 0; other < CHOICES; other++) {
            if (costsOfOne[other][j] < costsOfOne[i][j] || costsOfOther[i][other] < costsOfOther[i][j]) {
                return false;
            }
        }
        return true;
    }

    /** Of all ten times as many cases: in how many it is on, once it was turned about by some of 10. */
    private static long turnedAbout(long on, long all, int byTen) {
        return on * (10 - byTen) + (all - on) * byTen;
    }

    private void setFraction(long newAbove, long newBelow) {
        long divisor = commonDivisor(newAbove, newBelow);
        if (divisor > 0) {
            above = newAbove / divisor;
            below = newBelow / divisor;
        }
    }

    private static long commonDivisor(long a, long b) {
        long larger = a;
        long smaller = b;
        // Two steps halve the smaller one at least, so 130 are enough for any longs.
        for (int step = 0; step < 130 && smaller != 0; step++) {
            long left = larger % smaller;
            larger = smaller;
            smaller = left;
        }
        return larger;
    }

    /** How a night ends. */
    private static final class Night {
        int minute;
        int putOutBy;
        boolean anyhow;

        void endAt(int when, int sleeper, boolean wasUp) {
            minute = when;
            putOutBy = sleeper;
            anyhow = wasUp;
        }
    }

    /** The cells, and what is in them. */
    private static final class Floor {
        private static final int UNKNOWN = -1;

        int w;
        int h;
        int switchCell;
        int bedCell;
        int moonlit;
        int cords;
        final int[] things = new int[MOST_CELLS];
        private final int[] ways = new int[MOST_CELLS];
        /* Twice the way from bed to switch; many nights ask for it, so it is kept until something moves. */
        int walk;

        void layOut(int width, int height) {
            w = width;
            h = height;
            switchCell = 0;
            bedCell = w * h - 1;
            moonlit = 0;
            cords = 0;
            Arrays.fill(things, 0);
            walk = UNKNOWN;
        }

        void copyFrom(Floor other) {
            w = other.w;
            h = other.h;
            switchCell = other.switchCell;
            bedCell = other.bedCell;
            moonlit = other.moonlit;
            cords = other.cords;
            System.arraycopy(other.things, 0, things, 0, MOST_CELLS);
            walk = other.walk;
        }

        boolean has(int cell) {
            return within(cell, 0, w * h - 1);
        }

        void putSwitch(int cell) {
            switchCell = cell;
            walk = UNKNOWN;
        }

        void putBed(int cell) {
            bedCell = cell;
            walk = UNKNOWN;
        }

        void putThings(int cell, int n) {
            things[cell] = n;
            walk = UNKNOWN;
        }

        void shineOn(int columns) {
            moonlit = columns;
            walk = UNKNOWN;
        }

        void measureWalk() {
            if (walk == UNKNOWN) {
                measureWaysTo(switchCell);
                walk = 2 * ways[bedCell];
            }
        }

        int wayBetween(int start, int end) {
            measureWaysTo(end);
            return ways[start];
        }

        int nearestBed() {
            measureWaysTo(switchCell);
            int best = NONE;
            for (int cell = 0; cell < w * h; cell++) {
                if (cell != switchCell && things[cell] == 0 && (best == NONE || ways[cell] < ways[best])) {
                    best = cell;
                }
            }
            return best;
        }

        /** Worked out backwards from the end, so that one pass tells the ways from all cells. */
        private void measureWaysTo(int end) {
            int cells = w * h;
            Arrays.fill(ways, BEYOND);
            ways[end] = 0;
            boolean shorter = true;
            for (int round = 0; round < cells && shorter; round++) {
                shorter = false;
                for (int y = 0; y < h; y++) {
                    for (int x = 0; x < w; x++) {
                        shorter |= shorten(x, y);
                    }
                }
            }
        }

        private boolean shorten(int x, int y) {
            int cell = x + w * y;
            int least = ways[cell];
            if (x > 0) {
                least = Math.min(least, wayOver(x - 1, y));
            }
            if (x < w - 1) {
                least = Math.min(least, wayOver(x + 1, y));
            }
            if (y > 0) {
                least = Math.min(least, wayOver(x, y - 1));
            }
            if (y < h - 1) {
                least = Math.min(least, wayOver(x, y + 1));
            }
            boolean shorter = least < ways[cell];
            ways[cell] = least;
            return shorter;
        }

        /** The way of one who steps to a cell and goes on from there. */
        private int wayOver(int x, int y) {
            int cell = x + w * y;
            boolean seen = (moonlit >> x & 1) == 1;
            return 2 + (seen ? 0 : things[cell]) + ways[cell];
        }

        long mixInto(long before) {
            long mixed = before;
            for (int cell = 0; cell < w * h; cell++) {
                mixed = 31 * mixed + things[cell];
            }
            return mixed;
        }
    }

    /** One who sleeps, or would like to. */
    private static final class Sleeper {
        final int[] traits = new int[TRAITS];

        int waits(int leastCount) {
            int plain = traits[PATIENCE];
            int fair = plain + 5 * (traits[COUNT] - leastCount);
            int stubborn = 2 * fair;
            int giver = plain / 2;
            switch (traits[KIND]) {
                case FAIR: return fair;
                case STUBBORN: return stubborn;
                case GIVER: return giver;
                case SHAMMER: return stubborn + 20;
                case READER: return giver + traits[READS] / 4;
                default: return plain;
            }
        }

        boolean isUpAnyhow() {
            return traits[UP] != NONE && traits[READS] <= traits[UP];
        }

        /** What it costs him that the light went out in a minute, whoever put it out. */
        int lightCost(int minute) {
            int late = minute - traits[READS];
            return late > 0 ? traits[HATES] * late : 3 * -late;
        }
    }

    /** The sleepers, and the nights that they had. */
    private static final class Beds {
        final Sleeper[] sleepers = new Sleeper[MOST_SLEEPERS];
        int size;
        int nights;
        int undoable;
        /* A row a night, by its number: how many slept there, then COUNT and PAID of each ahead of it. */
        private final int[][] past = new int[MOST_UNDONE][1 + 2 * MOST_SLEEPERS];

        Beds() {
            for (int s = 0; s < MOST_SLEEPERS; s++) {
                sleepers[s] = new Sleeper();
            }
        }

        void startAnew() {
            size = 0;
            nights = 0;
            undoable = 0;
        }

        void copyFrom(Beds other) {
            size = other.size;
            nights = other.nights;
            undoable = other.undoable;
            for (int s = 0; s < MOST_SLEEPERS; s++) {
                System.arraycopy(other.sleepers[s].traits, 0, sleepers[s].traits, 0, TRAITS);
            }
            for (int i = 0; i < MOST_UNDONE; i++) {
                System.arraycopy(other.past[i], 0, past[i], 0, 1 + 2 * MOST_SLEEPERS);
            }
        }

        boolean has(int sleeper) {
            return within(sleeper, 0, size - 1);
        }

        /** The caller has seen that there is room for one more. */
        int welcome(int kind, int reads, int hates, int cold, int patience) {
            int[] traits = sleepers[size].traits;
            traits[KIND] = kind;
            traits[READS] = reads;
            traits[HATES] = hates;
            traits[COLD] = cold;
            traits[PATIENCE] = patience;
            traits[UP] = NONE;
            traits[COUNT] = 0;
            traits[PAID] = 0;
            size++;
            return size - 1;
        }

        int leastCount() {
            int least = BEYOND;
            for (int s = 0; s < size; s++) {
                least = Math.min(least, sleepers[s].traits[COUNT]);
            }
            return least;
        }

        int sum(int trait) {
            int all = 0;
            for (int s = 0; s < size; s++) {
                all += sleepers[s].traits[trait];
            }
            return all;
        }

        int feltBy(int sleeper) {
            return 3 * sleepers[sleeper].traits[COUNT] - sum(COUNT);
        }

        /**
         * Nothing happens ahead of the first minute in which one would act, so the minutes between
         * need not be gone through. Who is up anyhow comes ahead of who has waited till the same minute.
         */
        void foresee(Night night) {
            night.endAt(BURNT_OUT, NONE, false);
            int leastCount = leastCount();
            for (int s = 0; s < size; s++) {
                Sleeper one = sleepers[s];
                int up = one.traits[UP];
                if (one.isUpAnyhow() && (up < night.minute || (up == night.minute && !night.anyhow))) {
                    night.endAt(up, s, true);
                }
                int waited = one.traits[READS] + one.waits(leastCount);
                if (waited < night.minute) {
                    night.endAt(waited, s, false);
                }
            }
        }

        void rememberNight() {
            int[] row = past[nights % MOST_UNDONE];
            row[0] = size;
            for (int s = 0; s < size; s++) {
                row[1 + 2 * s] = sleepers[s].traits[COUNT];
                row[2 + 2 * s] = sleepers[s].traits[PAID];
            }
            nights++;
            undoable = Math.min(undoable + 1, MOST_UNDONE);
        }

        /** The caller has seen that a night may be undone. */
        void forgetNight() {
            nights--;
            undoable--;
            int[] row = past[nights % MOST_UNDONE];
            for (int s = 0; s < row[0]; s++) {
                sleepers[s].traits[COUNT] = row[1 + 2 * s];
                sleepers[s].traits[PAID] = row[2 + 2 * s];
            }
        }

        /** Draws for each the minute in which he is up in a night: the last number drawn. */
        long drawUps(long x) {
            long last = x;
            for (int s = 0; s < size; s++) {
                last = (last * 1103515245L + 12345L) % 2147483648L;
                int minute = (int) (last / 65536 % 180);
                sleepers[s].traits[UP] = minute > MOST_MINUTE ? NONE : minute;
            }
            return last;
        }

        long mixInto(long before) {
            long mixed = before;
            for (int s = 0; s < size; s++) {
                for (int trait = 0; trait < TRAITS; trait++) {
                    mixed = 31 * mixed + sleepers[s].traits[trait];
                }
            }
            return mixed;
        }
    }

    /** Who says that who moved the boot jack. */
    private static final class Notes {
        int size;
        private final int[] writers = new int[MOST_NOTES];
        private final int[] named = new int[MOST_NOTES];

        void copyFrom(Notes other) {
            size = other.size;
            System.arraycopy(other.writers, 0, writers, 0, MOST_NOTES);
            System.arraycopy(other.named, 0, named, 0, MOST_NOTES);
        }

        /** The caller has seen that there is room for one more. */
        int write(int writer, int some) {
            writers[size] = writer;
            named[size] = some;
            size++;
            return size - 1;
        }

        int suspects(int liars, int sleepers) {
            int bits = 0;
            for (int s = 0; s < sleepers; s++) {
                if (liarsIf(s) == liars) {
                    bits |= 1 << s;
                }
            }
            return bits;
        }

        /** How many lie, if one moved it; NONE: it does not fit, since one is both right and wrong. */
        private int liarsIf(int mover) {
            int right = 0;
            int wrong = 0;
            for (int i = 0; i < size; i++) {
                int writer = 1 << writers[i];
                if ((named[i] >> mover & 1) == 1) {
                    right |= writer;
                } else {
                    wrong |= writer;
                }
            }
            return (right & wrong) != 0 ? NONE : Integer.bitCount(wrong);
        }

        long mixInto(long before) {
            long mixed = before;
            for (int i = 0; i < size; i++) {
                mixed = 31 * mixed + writers[i];
                mixed = 31 * mixed + named[i];
            }
            return mixed;
        }
    }

    /** All that an image keeps. */
    private static final class State {
        final Floor floor = new Floor();
        final Beds beds = new Beds();
        final Notes notes = new Notes();
        /* How the night last foreseen ends; no image needs it. */
        final Night night = new Night();

        State() {
            startAnew(6, 4);
        }

        void startAnew(int w, int h) {
            floor.layOut(w, h);
            beds.startAnew();
            notes.size = 0;
        }

        void copyFrom(State other) {
            floor.copyFrom(other.floor);
            beds.copyFrom(other.beds);
            notes.copyFrom(other.notes);
        }

        void foresee() {
            floor.measureWalk();
            beds.foresee(night);
        }

        /** A night goes by: who put it out. */
        int spendNight() {
            foresee();
            beds.rememberNight();
            for (int s = 0; s < beds.size; s++) {
                beds.sleepers[s].traits[PAID] += costTonight(s);
            }
            if (night.putOutBy != NONE) {
                beds.sleepers[night.putOutBy].traits[COUNT]++;
            }
            return night.putOutBy;
        }

        /** Of the night last foreseen. */
        int costTonight(int sleeper) {
            int light = beds.sleepers[sleeper].lightCost(night.minute);
            boolean getsUp = night.putOutBy == sleeper && floor.cords == 0;
            return getsUp ? light + errandTonight() : light;
        }

        /** What getting up costs without a cord in the night last foreseen. */
        int errandTonight() {
            return night.putOutBy == NONE ? 0 : errandOf(night.putOutBy, night.anyhow);
        }

        private int errandOf(int sleeper, boolean anyhow) {
            int cold = anyhow ? 0 : beds.sleepers[sleeper].traits[COLD];
            return cold + floor.walk;
        }

        /** What one has to bear in n nights, if so many of the turns are his. */
        private int burden(int sleeper, int n, int own) {
            int errand = floor.cords == 0 ? errandOf(sleeper, false) : 0;
            return n * beds.sleepers[sleeper].lightCost(TURN_MINUTE) + own * errand;
        }

        /**
         * A turn more never costs one less: so the least that will do is found by raising the bound
         * to the next burden that one would have, until the turns below it are enough.
         */
        int leastOfTurns(int n) {
            int bound = 0;
            for (int s = 0; s < beds.size; s++) {
                bound = Math.max(bound, burden(s, n, 0));
            }
            for (int step = 0; step < MOST_SLEEPERS * MOST_TURNS && turnsWithin(bound, n) < n; step++) {
                bound = nextBurden(bound, n);
            }
            return bound;
        }

        private int turnsWithin(int bound, int n) {
            int all = 0;
            for (int s = 0; s < beds.size; s++) {
                all += ownTurnsWithin(s, bound, n);
            }
            return all;
        }

        private int ownTurnsWithin(int sleeper, int bound, int n) {
            int own = 0;
            while (own < n && burden(sleeper, n, own + 1) <= bound) {
                own++;
            }
            return own;
        }

        private int nextBurden(int bound, int n) {
            int next = BEYOND;
            for (int s = 0; s < beds.size; s++) {
                int own = ownTurnsWithin(s, bound, n);
                if (own < n) {
                    next = Math.min(next, burden(s, n, own + 1));
                }
            }
            return next;
        }

        /** The first row within the bound gives each, in order, all the turns that he can bear. */
        int whoseTurn(int n, int bound, int i) {
            int given = 0;
            for (int s = 0; s < beds.size; s++) {
                given += ownTurnsWithin(s, bound, n);
                if (i < given) {
                    return s;
                }
            }
            return NONE;
        }
    }

    /** The text, and the room that it tells. */
    private static final class Script {
        private static final int END = 0, WORD = 1, NUMBER = 2, STOP = 3, WRONG = 4;
        private static final int ROOM = 0, SWITCH = 1, BED = 2, THING = 3, MOON = 4, CORD = 5, SLEEPER = 6, RISER = 7;
        private static final int[] NUMBERS_OF = {2, 1, 1, 2, 1, 0, 5, 2};
        private static final int MOST_FIGURES = 3;

        int length;
        private final byte[] bytes = new byte[MOST_BYTES];
        private final int[] numbers = new int[5];
        private int token;
        private int start;
        private int end;
        private int value;

        /** The caller has seen that there is room for one more. */
        void append(int c) {
            bytes[length] = (byte) c;
            length++;
        }

        /** How many items; or -10 less the fault, and then the room is of no use. */
        int tellRoom(State told) {
            end = 0;
            nextToken();
            for (int items = 0; items < MOST_BYTES; items++) {
                if (token == END && items > 0) {
                    return items;
                }
                if (!itemStands(told, items == 0)) {
                    return -10 - start;
                }
            }
            // An item has five bytes at the least, so the loop has ended ahead of this.
            return -10 - length;
        }

        private boolean itemStands(State told, boolean first) {
            int item = token == WORD ? itemOfWord() : NONE;
            if (item == NONE || (item == ROOM) != first) {
                return false;
            }
            if (item == SLEEPER && told.beds.size >= MOST_SLEEPERS) {
                return false;
            }
            nextToken();
            for (int i = 0; i < NUMBERS_OF[item]; i++) {
                int least = item == ROOM ? 1 : 0;
                if (token != NUMBER || !within(value, least, mostOfNumber(told, item, i))) {
                    return false;
                }
                numbers[i] = value;
                nextToken();
            }
            if (token != STOP) {
                return false;
            }
            apply(told, item);
            nextToken();
            return true;
        }

        private int itemOfWord() {
            if (wordIs("room")) {
                return ROOM;
            } else if (wordIs("switch")) {
                return SWITCH;
            } else if (wordIs("bed")) {
                return BED;
            } else if (wordIs("thing")) {
                return THING;
            } else if (wordIs("moon")) {
                return MOON;
            } else if (wordIs("cord")) {
                return CORD;
            } else if (wordIs("sleeper")) {
                return SLEEPER;
            } else if (wordIs("up")) {
                return RISER;
            }
            return NONE;
        }

        private boolean wordIs(String word) {
            if (end - start != word.length()) {
                return false;
            }
            for (int i = 0; i < word.length(); i++) {
                if (bytes[start + i] != word.charAt(i)) {
                    return false;
                }
            }
            return true;
        }

        private static int mostOfNumber(State told, int item, int i) {
            int lastCell = told.floor.w * told.floor.h - 1;
            switch (item) {
                case ROOM: return MOST_SIDE;
                case THING: return i == 0 ? lastCell : MOST_THINGS;
                case MOON: return told.floor.w - 1;
                case SLEEPER: return MOST_OF_TRAIT[i];
                case RISER: return i == 0 ? told.beds.size - 1 : MOST_OF_TRAIT[UP];
                default: return lastCell;
            }
        }

        private void apply(State told, int item) {
            switch (item) {
                case ROOM: told.startAnew(numbers[0], numbers[1]); break;
                case SWITCH: told.floor.putSwitch(numbers[0]); break;
                case BED: told.floor.putBed(numbers[0]); break;
                case THING: told.floor.putThings(numbers[0], numbers[1]); break;
                case MOON: told.floor.shineOn(told.floor.moonlit | 1 << numbers[0]); break;
                case CORD: told.floor.cords = 1; break;
                case SLEEPER: told.beds.welcome(numbers[0], numbers[1], numbers[2], numbers[3], numbers[4]); break;
                default: told.beds.sleepers[numbers[0]].traits[UP] = numbers[1]; break;
            }
        }

        private void nextToken() {
            start = end;
            while (start < length && bytes[start] == ' ') {
                start++;
            }
            end = start;
            if (start >= length) {
                token = END;
            } else if (isLetter(bytes[start])) {
                takeWord();
            } else if (isFigure(bytes[start])) {
                takeNumber();
            } else {
                token = bytes[start] == ';' ? STOP : WRONG;
                end = start + 1;
            }
        }

        private void takeWord() {
            token = WORD;
            while (end < length && isLetter(bytes[end])) {
                end++;
            }
        }

        private void takeNumber() {
            value = 0;
            while (end < length && isFigure(bytes[end])) {
                if (end - start < MOST_FIGURES) {
                    value = 10 * value + bytes[end] - '0';
                }
                end++;
            }
            token = end - start <= MOST_FIGURES ? NUMBER : WRONG;
        }

        private static boolean isLetter(int c) {
            return c >= 'a' && c <= 'z';
        }

        private static boolean isFigure(int c) {
            return c >= '0' && c <= '9';
        }
    }
}
