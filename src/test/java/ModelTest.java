import java.util.ArrayList;
import java.util.HashMap;
import java.util.List;
import java.util.Map;
import java.util.Random;

/**
 * Long runs of calls by a seed, each answer held against a model that does what the document says in
 * the plainest way: minute by minute, way by way, row by row. It shares no code with the class.
 */
public final class ModelTest {
    private static final int RUNS = 250;
    private static final int CALLS = 512;

    /** Sleeper: kind, reads, hates, cold, patience, up, count, paid. */
    private static final class World {
        int w = 6, h = 4, sw = 0, bed = 23, moon = 0, cord = 0, nights = 0;
        int[] things = new int[24];
        List<int[]> sleepers = new ArrayList<>();
        List<int[]> notes = new ArrayList<>();
        /** For each night that may be undone: count and paid of those who were there. */
        List<List<int[]>> past = new ArrayList<>();

        World() {
        }

        World(int w, int h) {
            this.w = w;
            this.h = h;
            bed = w * h - 1;
            things = new int[w * h];
        }

        World copy() {
            World c = new World(w, h);
            c.sw = sw;
            c.bed = bed;
            c.moon = moon;
            c.cord = cord;
            c.nights = nights;
            c.things = things.clone();
            for (int[] s : sleepers) {
                c.sleepers.add(s.clone());
            }
            for (int[] n : notes) {
                c.notes.add(n.clone());
            }
            c.past.addAll(past);
            return c;
        }

        int[] waysFrom(int from) {
            int[] best = new int[w * h];
            java.util.Arrays.fill(best, Integer.MAX_VALUE);
            List<int[]> open = new ArrayList<>();
            open.add(new int[] {from, 0});
            while (!open.isEmpty()) {
                int least = 0;
                for (int i = 1; i < open.size(); i++) {
                    least = open.get(i)[1] < open.get(least)[1] ? i : least;
                }
                int[] at = open.remove(least);
                if (best[at[0]] <= at[1]) {
                    continue;
                }
                best[at[0]] = at[1];
                for (int to = 0; to < w * h; to++) {
                    if (Math.abs(to % w - at[0] % w) + Math.abs(to / w - at[0] / w) == 1) {
                        int hurt = (moon & 1 << to % w) != 0 ? 0 : things[to];
                        open.add(new int[] {to, at[1] + 2 + hurt});
                    }
                }
            }
            return best;
        }

        int way(int from, int to) {
            return waysFrom(from)[to];
        }

        int bestBed() {
            int best = -1;
            for (int c = 0; c < w * h; c++) {
                if (c != sw && things[c] == 0 && (best < 0 || way(c, sw) < way(best, sw))) {
                    best = c;
                }
            }
            return best;
        }

        int leastCount() {
            int least = Integer.MAX_VALUE;
            for (int[] s : sleepers) {
                least = Math.min(least, s[6]);
            }
            return least;
        }

        int waits(int i) {
            return waitsAs(sleepers.get(i)[0], sleepers.get(i));
        }

        int waitsAs(int kind, int[] s) {
            switch (kind) {
                case 0: return s[4];
                case 1: return waitsAs(0, s) + 5 * (s[6] - leastCount());
                case 2: return 2 * waitsAs(1, s);
                case 3: return waitsAs(0, s) / 2;
                case 4: return 20 + waitsAs(2, s);
                default: return waitsAs(3, s) + s[1] / 4;
            }
        }

        /** minute, who, anyhow */
        int[] tonight() {
            for (int minute = 0; minute < 300; minute++) {
                for (int i = 0; i < sleepers.size(); i++) {
                    if (sleepers.get(i)[5] == minute && sleepers.get(i)[1] <= minute) {
                        return new int[] {minute, i, 1};
                    }
                }
                for (int i = 0; i < sleepers.size(); i++) {
                    if (sleepers.get(i)[1] + waits(i) <= minute) {
                        return new int[] {minute, i, 0};
                    }
                }
            }
            return new int[] {300, -1, 0};
        }

        int cost(int i, int[] night) {
            int[] s = sleepers.get(i);
            int sum = 0;
            for (int minute = s[1]; minute < night[0]; minute++) {
                sum += s[2];
            }
            for (int minute = night[0]; minute < s[1]; minute++) {
                sum += 3;
            }
            if (night[1] == i && cord == 0) {
                sum += (night[2] == 0 ? s[3] : 0) + 2 * way(bed, sw);
            }
            return sum;
        }

        int pass() {
            int[] night = tonight();
            List<int[]> ahead = new ArrayList<>();
            for (int[] s : sleepers) {
                ahead.add(new int[] {s[6], s[7]});
            }
            past.add(ahead);
            if (past.size() > 8) {
                past.remove(0);
            }
            nights++;
            for (int i = 0; i < sleepers.size(); i++) {
                sleepers.get(i)[7] += cost(i, night);
            }
            if (night[1] >= 0) {
                sleepers.get(night[1])[6]++;
            }
            return night[1];
        }

        int sum(int trait) {
            int sum = 0;
            for (int[] s : sleepers) {
                sum += s[trait];
            }
            return sum;
        }
    }

    private World world = new World();
    private final World[] images = new World[2];
    private final StringBuilder text = new StringBuilder();
    private long above = 0, below = 1;
    private final int[] status = new int[3];

    private int bad(int answer) {
        status[0]++;
        return answer;
    }

    private int no() {
        status[1]++;
        return -3;
    }

    private int full() {
        status[2]++;
        return -4;
    }

    private static boolean in(int v, int least, int most) {
        return least <= v && v <= most;
    }

    private boolean there(int s) {
        return in(s, 0, world.sleepers.size() - 1);
    }

    private boolean cell(int c) {
        return in(c, 0, world.w * world.h - 1);
    }

    private static final int[] MOST = {5, 120, 9, 20, 60, 120};

    private long answer(String call, int[] a) {
        switch (call) {
            case "room": return room(a[0], a[1]);
            case "place": return place(a[0], a[1]);
            case "things": return things(a[0], a[1]);
            case "moon": return moon(a[0]);
            case "cord": return cord(a[0]);
            case "sleeper": return sleeper(a);
            case "become": return become(a[0], a[1], a[2]);
            case "type": return type(a[0]);
            case "clear": return clear();
            case "read": return read();
            case "pass": return pass(a[0]);
            case "undo": return undo();
            case "about": return about(a[0], a[1]);
            case "way": return cell(a[0]) && cell(a[1]) ? world.way(a[0], a[1]) : bad(-2);
            case "bed": return world.bestBed();
            case "tonight": return in(a[0], 0, 2) ? world.tonight()[a[0]] : bad(-2);
            case "cost": return there(a[0]) ? world.cost(a[0], world.tonight()) : bad(-2);
            case "foretold": return foretold(a[0], a[1], a[2]);
            case "worth": return worth(a[0]);
            case "reading": return reading(a[0]);
            case "waiting": return waiting(a[0], a[1], a[2]);
            case "turns": return turns(a[0], a[1]);
            case "shoe": return shoe(a[0], a[1], a[2]);
            case "clap": return clap(a[0], a[1], a[2]);
            case "asleep": return asleep(a);
            case "note": return note(a[0], a[1]);
            case "burn": return burn();
            case "who": return who(a[0]);
            case "drawn": return drawn(a[0], a[1], a[2]);
            case "part": return in(a[0], 0, 1) ? a[0] == 0 ? above : below : bad(-2);
            case "image": return image(a[0]);
            case "from": return from(a[0]);
            case "status": return in(a[0], 0, 2) ? status[a[0]] : bad(-1);
            case "count": return in(a[0], 0, 10) ? count(a[0]) : bad(-2);
            default: return digest();
        }
    }

    private int room(int w, int h) {
        if (!in(w, 1, 7) || !in(h, 1, 7)) {
            return bad(-2);
        }
        world = new World(w, h);
        return 1;
    }

    private int place(int what, int c) {
        if (!in(what, 0, 1) || !cell(c)) {
            return bad(-2);
        }
        int was = what == 0 ? world.sw : world.bed;
        if (what == 0) {
            world.sw = c;
        } else {
            world.bed = c;
        }
        return was;
    }

    private int things(int c, int n) {
        if (!cell(c) || !in(n, 0, 9)) {
            return bad(-2);
        }
        int was = world.things[c];
        world.things[c] = n;
        return was;
    }

    private int moon(int columns) {
        if (!in(columns, 0, 127)) {
            return bad(-2);
        }
        int was = world.moon;
        world.moon = columns;
        return was;
    }

    private int cord(int is) {
        if (!in(is, 0, 1)) {
            return bad(-2);
        }
        int was = world.cord;
        world.cord = is;
        return was;
    }

    private int sleeper(int[] a) {
        for (int i = 0; i < 5; i++) {
            if (!in(a[i], 0, MOST[i])) {
                return bad(-2);
            }
        }
        if (world.sleepers.size() == 4) {
            return full();
        }
        world.sleepers.add(new int[] {a[0], a[1], a[2], a[3], a[4], -1, 0, 0});
        return world.sleepers.size() - 1;
    }

    private int become(int s, int what, int v) {
        if (!there(s) || !in(what, 0, 5) || !in(v, what == 5 ? -1 : 0, MOST[what])) {
            return bad(-10);
        }
        int was = world.sleepers.get(s)[what];
        world.sleepers.get(s)[what] = v;
        return was;
    }

    private int type(int c) {
        if (!in(c, 0, 127)) {
            return bad(-2);
        }
        if (text.length() == 150) {
            return full();
        }
        text.append((char) c);
        return text.length();
    }

    private int clear() {
        int had = text.length();
        text.setLength(0);
        return had;
    }

    /** The tokens as texts, and their places; an empty one at the end. */
    private static void cut(String text, List<String> tokens, List<Integer> places) {
        java.util.regex.Matcher m = java.util.regex.Pattern.compile("[a-z]+|[0-9]+|;| +|[\\x00-\\x7f]").matcher(text);
        while (m.find()) {
            if (m.group().charAt(0) != ' ') {
                tokens.add(m.group());
                places.add(m.start());
            }
        }
        tokens.add("");
        places.add(text.length());
    }

    private int read() {
        List<String> tokens = new ArrayList<>();
        List<Integer> places = new ArrayList<>();
        cut(text.toString(), tokens, places);
        World told = null;
        int at = 0;
        int items = 0;
        while (items == 0 || !tokens.get(at).equals("")) {
            String word = tokens.get(at);
            int[][] ranges = ranges(told, word);
            if (ranges == null) {
                return -10 - places.get(at);
            }
            int[] v = new int[ranges.length];
            for (int i = 0; i < v.length; i++) {
                at++;
                String number = tokens.get(at);
                if (!number.matches("[0-9]{1,3}") || !in(Integer.parseInt(number), ranges[i][0], ranges[i][1])) {
                    return -10 - places.get(at);
                }
                v[i] = Integer.parseInt(number);
            }
            at++;
            if (!tokens.get(at).equals(";")) {
                return -10 - places.get(at);
            }
            at++;
            items++;
            told = word.equals("room") ? new World(v[0], v[1]) : told;
            tell(told, word, v);
        }
        world = told;
        return items;
    }

    private static int[][] ranges(World told, String word) {
        if (told == null) {
            return word.equals("room") ? new int[][] {{1, 7}, {1, 7}} : null;
        }
        int last = told.w * told.h - 1;
        Map<String, int[][]> all = new HashMap<>();
        all.put("switch", new int[][] {{0, last}});
        all.put("bed", new int[][] {{0, last}});
        all.put("thing", new int[][] {{0, last}, {0, 9}});
        all.put("moon", new int[][] {{0, told.w - 1}});
        all.put("cord", new int[][] {});
        if (told.sleepers.size() < 4) {
            all.put("sleeper", new int[][] {{0, 5}, {0, 120}, {0, 9}, {0, 20}, {0, 60}});
        }
        all.put("up", new int[][] {{0, told.sleepers.size() - 1}, {0, 120}});
        return all.get(word);
    }

    private static void tell(World told, String word, int[] v) {
        switch (word) {
            case "switch": told.sw = v[0]; break;
            case "bed": told.bed = v[0]; break;
            case "thing": told.things[v[0]] = v[1]; break;
            case "moon": told.moon |= 1 << v[0]; break;
            case "cord": told.cord = 1; break;
            case "sleeper": told.sleepers.add(new int[] {v[0], v[1], v[2], v[3], v[4], -1, 0, 0}); break;
            case "up": told.sleepers.get(v[0])[5] = v[1]; break;
            default: break;
        }
    }

    private int pass(int n) {
        if (!in(n, 1, 30)) {
            return bad(-2);
        }
        int out = 0;
        for (int i = 0; i < n; i++) {
            out += world.pass() >= 0 ? 1 : 0;
        }
        return out;
    }

    private int undo() {
        if (world.past.isEmpty()) {
            return no();
        }
        List<int[]> ahead = world.past.remove(world.past.size() - 1);
        for (int i = 0; i < ahead.size(); i++) {
            world.sleepers.get(i)[6] = ahead.get(i)[0];
            world.sleepers.get(i)[7] = ahead.get(i)[1];
        }
        world.nights--;
        return 1;
    }

    private int about(int s, int what) {
        if (!there(s) || !in(what, 0, 3)) {
            return bad(-100000);
        }
        int[] one = world.sleepers.get(s);
        int others = world.sum(6) - one[6];
        return new int[] {one[6], one[7], world.waits(s), 2 * one[6] - others}[what];
    }

    private int foretold(int n, int s, int what) {
        if (!in(n, 0, 60) || (s != -1 && !there(s)) || !in(what, 0, 1)) {
            return bad(-2);
        }
        World then = world.copy();
        for (int i = 0; i < n; i++) {
            then.pass();
        }
        return s == -1 ? then.sum(6 + what) : then.sleepers.get(s)[6 + what];
    }

    private int worth(int price) {
        if (!in(price, 0, 9999)) {
            return bad(-2);
        }
        World with = world.copy();
        World without = world.copy();
        with.cord = 1;
        without.cord = 0;
        for (int n = 0; n <= 60; n++) {
            if (with.sum(7) + price <= without.sum(7)) {
                return n;
            }
            with.pass();
            without.pass();
        }
        return -1;
    }

    private int reading(int s) {
        if (!there(s)) {
            return bad(-2);
        }
        int best = -1;
        int most = Integer.MIN_VALUE;
        for (int r = 0; r <= 120; r++) {
            World then = world.copy();
            then.sleepers.get(s)[1] = r;
            int[] night = then.tonight();
            int joy = -then.cost(s, night);
            for (int minute = 0; minute < r && minute < night[0]; minute++) {
                joy += 2;
            }
            if (joy > most) {
                most = joy;
                best = r;
            }
        }
        return best;
    }

    private int costBy(int a, int i, int b, int j, int of) {
        World then = world.copy();
        then.sleepers.get(a)[4] = 10 * i;
        then.sleepers.get(b)[4] = 10 * j;
        return then.cost(of, then.tonight());
    }

    private int waiting(int a, int b, int what) {
        if (!there(a) || !there(b) || a == b || !in(what, 0, 1)) {
            return bad(-10);
        }
        int[][] ofA = new int[7][7];
        int[][] ofB = new int[7][7];
        for (int i = 0; i < 7; i++) {
            for (int j = 0; j < 7; j++) {
                ofA[i][j] = costBy(a, i, b, j, a);
                ofB[i][j] = costBy(a, i, b, j, b);
            }
        }
        List<Integer> rest = new ArrayList<>();
        for (int i = 0; i < 7; i++) {
            for (int j = 0; j < 7; j++) {
                boolean rests = true;
                for (int k = 0; k < 7; k++) {
                    rests &= ofA[k][j] >= ofA[i][j] && ofB[i][k] >= ofB[i][j];
                }
                if (rests) {
                    rest.add(10 * i + j);
                }
            }
        }
        return what == 0 ? rest.size() : rest.isEmpty() ? -1 : rest.get(0);
    }

    private int turns(int n, int i) {
        if (!in(n, 0, 6) || i < -1) {
            return bad(-10);
        }
        int size = world.sleepers.size();
        if (size == 0) {
            return -1;
        }
        if (i >= n) {
            return -5;
        }
        int[][] costs = new int[size][size];
        for (int by = 0; by < size; by++) {
            for (int s = 0; s < size; s++) {
                costs[by][s] = world.cost(s, new int[] {60, by, 0});
            }
        }
        int rows = 1;
        for (int k = 0; k < n; k++) {
            rows *= size;
        }
        int least = Integer.MAX_VALUE;
        int[] best = new int[n];
        for (int code = 0; code < rows; code++) {
            int[] row = new int[n];
            int rest = code;
            for (int k = n - 1; k >= 0; k--) {
                row[k] = rest % size;
                rest /= size;
            }
            int most = 0;
            for (int s = 0; s < size; s++) {
                int sum = 0;
                for (int by : row) {
                    sum += costs[by][s];
                }
                most = Math.max(most, sum);
            }
            if (most < least) {
                least = most;
                best = row;
            }
        }
        return i == -1 ? least : best[i];
    }

    private int fraction(java.math.BigInteger a, java.math.BigInteger b) {
        java.math.BigInteger g = a.gcd(b);
        above = a.divide(g).longValueExact();
        below = b.divide(g).longValueExact();
        return 1;
    }

    private static java.math.BigInteger big(long v) {
        return java.math.BigInteger.valueOf(v);
    }

    private int shoe(int p, int k, int what) {
        if (!in(p, 0, 10) || !in(k, 0, 9) || !in(what, 0, 1)) {
            return bad(-2);
        }
        // Of 10^k: the first hit is throw t in (10-p)^(t-1) p 10^(k-t) of them.
        java.math.BigInteger hit = big(0);
        java.math.BigInteger made = big(0);
        for (int t = 1; t <= k; t++) {
            java.math.BigInteger at = big(10 - p).pow(t - 1).multiply(big(p)).multiply(big(10).pow(k - t));
            hit = hit.add(at);
            made = made.add(at.multiply(big(t)));
        }
        made = made.add(big(10 - p).pow(k).multiply(big(k)));
        return fraction(what == 0 ? hit : made, big(10).pow(k));
    }

    private int clap(int p, int q, int m) {
        if (!in(p, 0, 10) || !in(q, 0, 10) || !in(m, 0, 8)) {
            return bad(-2);
        }
        // On is one half, and one half of the bias that is left.
        java.math.BigInteger bias = big((long) (10 - 2 * p) * (10 - 2 * q)).pow(m);
        return fraction(big(100).pow(m).add(bias), big(100).pow(m).multiply(big(2)));
    }

    private int asleep(int[] a) {
        if (!in(a[0], 0, 10) || !in(a[1], 0, 10) || !in(a[2], 0, 10) || !in(a[4], 0, 6)
                || a[3] < 0 || a[3] >= Math.pow(2, a[4])) {
            return bad(-2);
        }
        int even = Integer.bitCount(a[3]);
        int odd = a[4] - even;
        java.math.BigInteger sleeps = big(a[0]).multiply(big(a[1]).pow(even)).multiply(big(10 - a[1]).pow(odd));
        java.math.BigInteger feigns = big(10 - a[0]).multiply(big(a[2]).pow(even)).multiply(big(10 - a[2]).pow(odd));
        if (sleeps.add(feigns).signum() == 0) {
            return no();
        }
        return fraction(sleeps, sleeps.add(feigns));
    }

    private int note(int s, int some) {
        if (!there(s) || some < 0 || some >= 1 << world.sleepers.size()) {
            return bad(-2);
        }
        if (world.notes.size() == 8) {
            return full();
        }
        world.notes.add(new int[] {s, some});
        return world.notes.size() - 1;
    }

    private int burn() {
        int were = world.notes.size();
        world.notes.clear();
        return were;
    }

    /** All sets of liars of that size, held against all notes. */
    private int who(int liars) {
        if (!in(liars, 0, 4)) {
            return bad(-2);
        }
        int bits = 0;
        for (int mover = 0; mover < world.sleepers.size(); mover++) {
            for (int lie = 0; lie < 1 << world.sleepers.size(); lie++) {
                if (Integer.bitCount(lie) == liars && fits(mover, lie)) {
                    bits |= 1 << mover;
                }
            }
        }
        return bits;
    }

    private boolean fits(int mover, int lie) {
        int wrote = 0;
        for (int[] n : world.notes) {
            wrote |= 1 << n[0];
            boolean isTrue = (n[1] & 1 << mover) != 0;
            boolean lies = (lie & 1 << n[0]) != 0;
            if (isTrue == lies) {
                return false;
            }
        }
        return (lie & ~wrote) == 0;
    }

    private int drawn(int seed, int n, int s) {
        if (!in(seed, 0, 999999) || !in(n, 0, 60) || !there(s)) {
            return bad(-2);
        }
        World then = world.copy();
        java.math.BigInteger x = big(seed);
        int times = 0;
        for (int i = 0; i < n; i++) {
            for (int[] one : then.sleepers) {
                x = x.multiply(big(1103515245)).add(big(12345)).mod(big(2147483648L));
                int minute = x.divide(big(65536)).mod(big(180)).intValueExact();
                one[5] = minute <= 120 ? minute : -1;
            }
            times += then.pass() == s ? 1 : 0;
        }
        return times;
    }

    private int image(int i) {
        if (!in(i, 0, 1)) {
            return bad(-2);
        }
        images[i] = world.copy();
        return 1;
    }

    private int from(int i) {
        if (!in(i, 0, 1)) {
            return bad(-2);
        }
        if (images[i] == null) {
            return no();
        }
        world = images[i].copy();
        return 1;
    }

    private int count(int what) {
        return new int[] {world.w, world.h, world.sw, world.bed, world.moon, world.cord, world.sleepers.size(),
            world.notes.size(), world.nights, world.past.size(), text.length()}[what];
    }

    private long digest() {
        List<Long> all = new ArrayList<>();
        for (int what = 0; what <= 10; what++) {
            all.add((long) count(what));
        }
        for (int t : world.things) {
            all.add((long) t);
        }
        for (int[] s : world.sleepers) {
            for (int v : s) {
                all.add((long) v);
            }
        }
        for (int[] n : world.notes) {
            all.add((long) n[0]);
            all.add((long) n[1]);
        }
        all.add(above);
        all.add(below);
        long h = 857;
        for (long v : all) {
            h = 31 * h + v;
        }
        return h;
    }

    // ---- the class itself

    private static long ask(LastAwake x, String call, int[] a) {
        switch (call) {
            case "room": return x.room(a[0], a[1]);
            case "place": return x.place(a[0], a[1]);
            case "things": return x.things(a[0], a[1]);
            case "moon": return x.moon(a[0]);
            case "cord": return x.cord(a[0]);
            case "sleeper": return x.sleeper(a[0], a[1], a[2], a[3], a[4]);
            case "become": return x.become(a[0], a[1], a[2]);
            case "type": return x.type(a[0]);
            case "clear": return x.clear();
            case "read": return x.read();
            case "pass": return x.pass(a[0]);
            case "undo": return x.undo();
            case "about": return x.about(a[0], a[1]);
            case "way": return x.way(a[0], a[1]);
            case "bed": return x.bed();
            case "tonight": return x.tonight(a[0]);
            case "cost": return x.cost(a[0]);
            case "foretold": return x.foretold(a[0], a[1], a[2]);
            case "worth": return x.worth(a[0]);
            case "reading": return x.reading(a[0]);
            case "waiting": return x.waiting(a[0], a[1], a[2]);
            case "turns": return x.turns(a[0], a[1]);
            case "shoe": return x.shoe(a[0], a[1], a[2]);
            case "clap": return x.clap(a[0], a[1], a[2]);
            case "asleep": return x.asleep(a[0], a[1], a[2], a[3], a[4]);
            case "note": return x.note(a[0], a[1]);
            case "burn": return x.burn();
            case "who": return x.who(a[0]);
            case "drawn": return x.drawn(a[0], a[1], a[2]);
            case "part": return x.part(a[0]);
            case "image": return x.image(a[0]);
            case "from": return x.from(a[0]);
            case "status": return x.status(a[0]);
            case "count": return x.count(a[0]);
            default: return x.digest();
        }
    }

    /** Each call with the least and the most of each number that is as told; one beyond comes at times, too. */
    private static final Object[][] CALLS_OF = {
        {"room", 1, 7, 1, 7}, {"place", 0, 1, 0, 23}, {"things", 0, 30, 0, 9}, {"moon", 0, 127}, {"cord", 0, 1},
        {"sleeper", 0, 5, 0, 120, 0, 9, 0, 20, 0, 60}, {"become", 0, 3, 0, 5, 0, 9}, {"become", 0, 3, 4, 5, 0, 60},
        {"become", 0, 3, 5, 5, -1, 120}, {"become", 0, 3, 1, 1, 0, 120}, {"type", 0, 127}, {"clear"}, {"read"},
        {"pass", 1, 30}, {"undo"}, {"about", 0, 3, 0, 3}, {"way", 0, 23, 0, 23}, {"bed"}, {"tonight", 0, 2},
        {"cost", 0, 3}, {"foretold", 0, 60, -1, 3, 0, 1}, {"worth", 0, 9999}, {"worth", 0, 200}, {"reading", 0, 3},
        {"waiting", 0, 3, 0, 3, 0, 1}, {"turns", 0, 6, -1, 6}, {"shoe", 0, 10, 0, 9, 0, 1}, {"clap", 0, 10, 0, 10, 0, 8},
        {"asleep", 0, 10, 0, 10, 0, 10, 0, 63, 6, 6}, {"asleep", 0, 10, 0, 10, 0, 10, 0, 7, 0, 6}, {"note", 0, 3, 0, 15},
        {"burn"}, {"who", 0, 4}, {"drawn", 0, 999999, 0, 60, 0, 3}, {"part", 0, 1}, {"image", 0, 1}, {"from", 0, 1},
        {"status", 0, 2}, {"count", 0, 10}, {"digest"},
    };

    private static final int[] WILD = {Integer.MIN_VALUE, Integer.MAX_VALUE, -1, -2, 128, 1 << 30, 32, 64};

    private static int[] numbers(Random random, Object[] of) {
        int[] a = new int[(of.length - 1) / 2];
        for (int i = 0; i < a.length; i++) {
            int least = (Integer) of[1 + 2 * i];
            int most = (Integer) of[2 + 2 * i];
            int dice = random.nextInt(100);
            if (dice < 2) {
                a[i] = WILD[random.nextInt(WILD.length)];
            } else if (dice < 4) {
                a[i] = random.nextBoolean() ? least - 1 : most + 1;
            } else if (dice < 14) {
                a[i] = random.nextBoolean() ? least : most;
            } else {
                a[i] = least + random.nextInt(most - least + 1);
            }
        }
        return a;
    }

    private static final String[] WORDS = {"switch", "bed", "thing", "moon", "cord", "sleeper", "up", "room", "x"};
    private static final int[] NUMBERS = {1, 1, 2, 1, 0, 5, 2, 2, 1};

    /** A text that is mostly right, and hurt in a place now and then. */
    private static String anyText(Random random) {
        StringBuilder b = new StringBuilder();
        b.append("room ").append(1 + random.nextInt(7)).append(' ').append(1 + random.nextInt(7)).append(';');
        int items = random.nextInt(9);
        for (int i = 0; i < items; i++) {
            int word = random.nextInt(60) == 0 ? random.nextInt(9) : random.nextInt(7);
            b.append(WORDS[word]);
            for (int k = 0; k < NUMBERS[word]; k++) {
                int most = word == 5 ? MOST[k] : word == 6 && k == 1 ? 120 : word == 0 || word == 1 ? 8 : 2;
                b.append(' ').append(random.nextInt(most + 1));
            }
            b.append(random.nextInt(20) == 0 ? " ; " : ";");
        }
        if (random.nextInt(3) == 0) {
            String hurts = " ;0a9\nZ";
            int at = random.nextInt(b.length());
            char c = hurts.charAt(random.nextInt(hurts.length()));
            if (random.nextBoolean()) {
                b.setCharAt(at, c);
            } else {
                b.insert(at, c);
            }
        }
        if (random.nextInt(8) == 0) {
            b.setLength(random.nextInt(b.length() + 1));
        }
        return b.toString();
    }

    private int wrong = 0;
    private int made = 0;

    private void check(LastAwake x, int run, String call, int... a) {
        made++;
        long got = ask(x, call, a);
        long want = answer(call, a);
        long gotState = x.digest();
        long wantState = digest();
        if (got != want || gotState != wantState) {
            wrong++;
            System.out.println("run " + run + ", call " + made + ": " + call + java.util.Arrays.toString(a) + " answered "
                + got + ", due is " + want + (gotState != wantState ? "; the digest differs behind it" : ""));
        }
    }

    private int run(int seed) {
        Random random = new Random(seed);
        LastAwake x = new LastAwake();
        while (made < CALLS && wrong == 0) {
            if (random.nextInt(120) == 0) {
                check(x, seed, "clear");
                String text = anyText(random);
                for (int i = 0; i < text.length() && wrong == 0; i++) {
                    check(x, seed, "type", text.charAt(i));
                }
                check(x, seed, "read");
                continue;
            }
            Object[] of = CALLS_OF[random.nextInt(CALLS_OF.length)];
            boolean rare = of[0].equals("room") || of[0].equals("from") || of[0].equals("cord");
            if (!rare || random.nextInt(6) == 0) {
                check(x, seed, (String) of[0], numbers(random, of));
            }
        }
        for (int what = 0; what < 3; what++) {
            check(x, seed, "status", what);
        }
        return wrong;
    }

    /** Texts alone, each on a new object. */
    private int texts(int seed) {
        Random random = new Random(seed);
        LastAwake x = new LastAwake();
        String text = anyText(random);
        for (int i = 0; i < text.length(); i++) {
            check(x, seed, "type", text.charAt(i));
        }
        check(x, seed, "read");
        return wrong;
    }

    /** Rooms full of things, and sleepers who are much alike, so that turns are hard to share out. */
    private int crowd(int seed) {
        Random random = new Random(seed);
        LastAwake x = new LastAwake();
        check(x, seed, "room", 1 + random.nextInt(7), 1 + random.nextInt(7));
        int cells = world.w * world.h;
        for (int c = 0; c < cells; c++) {
            check(x, seed, "things", c, random.nextInt(3) == 0 ? 0 : random.nextInt(10));
        }
        check(x, seed, "place", 0, random.nextInt(cells));
        check(x, seed, "place", 1, random.nextInt(cells));
        check(x, seed, "moon", random.nextInt(128) & random.nextInt(128));
        check(x, seed, "way", random.nextInt(cells), random.nextInt(cells));
        check(x, seed, "bed");
        int size = 1 + random.nextInt(4);
        for (int s = 0; s < size; s++) {
            check(x, seed, "sleeper", random.nextInt(6), 57 + random.nextInt(7), random.nextInt(3), random.nextInt(21), random.nextInt(20));
        }
        for (int n = 0; n <= 6; n++) {
            for (int i = -1; i < n; i++) {
                check(x, seed, "turns", n, i);
            }
        }
        return wrong;
    }

    public static void main(String[] args) {
        int wrong = 0;
        for (int seed = 1; seed <= RUNS; seed++) {
            wrong += new ModelTest().run(seed);
        }
        for (int seed = 1; seed <= 2000; seed++) {
            wrong += new ModelTest().texts(seed);
        }
        for (int seed = 1; seed <= 300; seed++) {
            wrong += new ModelTest().crowd(seed);
        }
        System.out.println(wrong == 0 ? "all answers are as due" : wrong + " answers are not as due");
        if (wrong != 0) {
            System.exit(1);
        }
    }
}
