import java.util.ArrayList;
import java.util.Arrays;
import java.util.List;
import java.util.function.Supplier;

/**
 * Each number of each call one below its least, one above its most, and at both; each refused call: what it
 * answers, which count of STATUS goes up, and that nothing else has changed. All of it in a new room, in one that
 * was lived in, and in one in which everything is full.
 */
public final class RefusedTest {
    private static final int BAD = 0, NO = 1, FULL = 2;
    private static final int MIN = Integer.MIN_VALUE, MAX = Integer.MAX_VALUE;

    private static int wrong = 0;
    private static int looks = 0;

    private static void due(String call, Object got, Object want) {
        looks++;
        if (!got.equals(want)) {
            wrong++;
            System.out.println(call + " answered " + got + ", due is " + want);
        }
    }

    /** A call with its numbers. */
    private interface Call {
        long on(LastAwake x, int[] a);
    }

    /** A call that needs none. */
    private interface Plain {
        long on(LastAwake x);
    }

    /** An object in some state, made anew each time, and how many cells and sleepers it has. */
    private static final class Scene {
        final String name;
        final Supplier<LastAwake> made;
        final int cells;
        final int sleepers;

        Scene(String name, Supplier<LastAwake> made, int cells, int sleepers) {
            this.name = name;
            this.made = made;
            this.cells = cells;
            this.sleepers = sleepers;
        }

        int lastCell() {
            return cells - 1;
        }

        int lastSleeper() {
            return sleepers - 1;
        }
    }

    private static final Scene NEW = new Scene("new", LastAwake::new, 24, 0);
    private static final Scene LIVED = new Scene("lived", RefusedTest::lived, 15, 2);
    private static final Scene CROWDED = new Scene("full", RefusedTest::full, 49, 4);
    private static final Scene[] SCENES = {NEW, LIVED, CROWDED};

    private static void type(LastAwake x, String text) {
        for (int i = 0; i < text.length(); i++) {
            x.type(text.charAt(i));
        }
    }

    /** 5 by 3, two sleepers, three nights, two notes; image 0 is of something else, image 1 was not kept. */
    private static LastAwake lived() {
        LastAwake x = new LastAwake();
        x.room(3, 3);
        x.sleeper(1, 5, 6, 7, 8);
        x.pass(2);
        x.image(0);
        x.room(5, 3);
        x.place(0, 7);
        x.place(1, 2);
        x.things(6, 4);
        x.moon(9);
        x.sleeper(2, 20, 1, 9, 20);
        x.sleeper(5, 40, 2, 4, 10);
        x.become(1, 5, 60);
        x.note(0, 2);
        x.note(1, 3);
        x.pass(3);
        x.shoe(5, 1, 0);
        type(x, "room 2 2;cord;");
        x.cord(2);
        x.from(1);
        return x;
    }

    /** 7 by 7, four sleepers, eight notes, eight nights that may be undone, both images, 150 bytes. */
    private static LastAwake full() {
        LastAwake x = new LastAwake();
        x.room(7, 7);
        for (int c = 0; c < 49; c++) {
            x.things(c, c % 10);
        }
        x.moon(127);
        x.cord(1);
        for (int kind = 1; kind <= 4; kind++) {
            x.sleeper(kind, 30 * kind, 9, 20, 60);
        }
        x.become(3, 5, 120);
        x.image(0);
        x.pass(30);
        for (int i = 0; i < 8; i++) {
            x.note(i % 4, 15 - i);
        }
        x.image(1);
        x.pass(30);
        x.shoe(5, 1, 0);
        type(x, "room 7 7;" + " ".repeat(141));
        return x;
    }

    /** What there is now. */
    private static void look(LastAwake x, List<Long> seen) {
        seen.add(x.digest());
        for (int what = 0; what <= 10; what++) {
            seen.add((long) x.count(what));
        }
        seen.add(x.part(0));
        seen.add(x.part(1));
        for (int what = 0; what <= 2; what++) {
            seen.add((long) x.tonight(what));
        }
        seen.add((long) x.foretold(9, -1, 1));
        seen.add((long) x.who(1));
    }

    private static void unwind(LastAwake x, List<Long> seen) {
        long undone = x.undo();
        for (int i = 0; i < 9 && undone == 1; i++) {
            seen.add(x.digest());
            undone = x.undo();
        }
        seen.add(undone);
    }

    /** All that the object holds but STATUS: what is now, what may be undone, images, what the text tells. */
    private static List<Long> all(LastAwake x) {
        List<Long> seen = new ArrayList<>();
        look(x, seen);
        unwind(x, seen);
        for (int i = 0; i < 2; i++) {
            seen.add((long) x.from(i));
            look(x, seen);
            unwind(x, seen);
        }
        seen.add((long) x.read());
        look(x, seen);
        seen.add((long) x.clear());
        return seen;
    }

    private static int[] status(LastAwake x) {
        return new int[] {x.status(0), x.status(1), x.status(2)};
    }

    private static void dueRefused(String call, Scene scene, long answer, int reason, Plain refused) {
        String name = scene.name + ": " + call;
        LastAwake x = scene.made.get();
        int[] want = status(x);
        want[reason]++;
        due(name, refused.on(x), answer);
        due(name + ", STATUS", Arrays.toString(status(x)), Arrays.toString(want));
        due(name + ", all else", all(x), all(scene.made.get()));
    }

    /** Neither refused as BAD, nor anything changed. */
    private static void dueAnswered(String call, Scene scene, Plain asked) {
        String name = scene.name + ": " + call;
        LastAwake x = scene.made.get();
        int[] want = status(x);
        asked.on(x);
        due(name + ", STATUS", Arrays.toString(status(x)), Arrays.toString(want));
        due(name + ", all else", all(x), all(scene.made.get()));
    }

    private static int[] with(int[] good, int i, int v) {
        int[] a = good.clone();
        a[i] = v;
        return a;
    }

    private static void dueBad(Scene scene, String name, long answer, Call call, int[] a) {
        dueRefused(name + Arrays.toString(a), scene, answer, BAD, x -> call.on(x, a));
    }

    private static void dueNotBad(Scene scene, String name, Call call, int[] a) {
        LastAwake x = scene.made.get();
        int bad = x.status(0);
        call.on(x, a);
        due(scene.name + ": " + name + Arrays.toString(a) + " is not BAD: status(0)", x.status(0), bad);
    }

    /**
     * Each number of a call, all others good: one beyond each end, and far beyond; then at both ends.
     * Ranges: least and most of each; none is as told, if the most is below the least.
     */
    private static void dueRanges(Scene scene, String name, long answer, Call call, int[] good, int... ranges) {
        boolean mayBe = true;
        for (int i = 0; i < good.length; i++) {
            mayBe &= ranges[2 * i] <= ranges[2 * i + 1];
        }
        for (int i = 0; i < good.length; i++) {
            int least = ranges[2 * i];
            int most = ranges[2 * i + 1];
            if (least > MIN) {
                dueBad(scene, name, answer, call, with(good, i, least - 1));
                dueBad(scene, name, answer, call, with(good, i, MIN));
            }
            if (most < MAX) {
                dueBad(scene, name, answer, call, with(good, i, most + 1));
                dueBad(scene, name, answer, call, with(good, i, MAX));
            }
            if (mayBe) {
                dueNotBad(scene, name, call, with(good, i, least));
                dueNotBad(scene, name, call, with(good, i, most));
            } else {
                dueBad(scene, name, answer, call, with(good, i, least));
            }
        }
        if (good.length > 1) {
            int[] worst = new int[good.length];
            Arrays.fill(worst, MIN);
            dueBad(scene, name + " (counted once)", answer, call, worst);
        }
    }

    // ---- a room

    private static void numbersOfTheRoom(Scene s) {
        dueRanges(s, "2: room", -2, (x, a) -> x.room(a[0], a[1]), new int[] {3, 3}, 1, 7, 1, 7);
        dueRanges(s, "3: place", -2, (x, a) -> x.place(a[0], a[1]), new int[] {1, 3}, 0, 1, 0, s.lastCell());
        dueRanges(s, "4: things", -2, (x, a) -> x.things(a[0], a[1]), new int[] {2, 3}, 0, s.lastCell(), 0, 9);
        dueRanges(s, "5: moon", -2, (x, a) -> x.moon(a[0]), new int[] {5}, 0, 127);
        dueRanges(s, "6: cord", -2, (x, a) -> x.cord(a[0]), new int[] {1}, 0, 1);
        dueRanges(s, "7: sleeper", -2, (x, a) -> x.sleeper(a[0], a[1], a[2], a[3], a[4]), new int[] {1, 1, 1, 1, 1},
            0, 5, 0, 120, 0, 9, 0, 20, 0, 60);
        dueRanges(s, "9: type", -2, (x, a) -> x.type(a[0]), new int[] {97}, 0, 127);
    }

    private static void numbersOfBecome(Scene s) {
        int[] most = {5, 120, 9, 20, 60, 120};
        dueRanges(s, "8: become", -10, (x, a) -> x.become(a[0], a[1], 0), new int[] {0, 1}, 0, s.lastSleeper(), 0, 5);
        for (int what = 0; what < 6; what++) {
            int trait = what;
            dueRanges(s, "8: become " + what, -10, (x, a) -> x.become(a[0], trait, a[1]), new int[] {0, 2},
                0, s.lastSleeper(), what == 5 ? -1 : 0, most[what]);
        }
    }

    // ---- nights

    private static void numbersOfNights(Scene s) {
        dueRanges(s, "12: pass", -2, (x, a) -> x.pass(a[0]), new int[] {2}, 1, 30);
        dueRanges(s, "14: about", -100000, (x, a) -> x.about(a[0], a[1]), new int[] {0, 1}, 0, s.lastSleeper(), 0, 3);
        dueRanges(s, "15: way", -2, (x, a) -> x.way(a[0], a[1]), new int[] {1, 2}, 0, s.lastCell(), 0, s.lastCell());
        dueRanges(s, "17: tonight", -2, (x, a) -> x.tonight(a[0]), new int[] {0}, 0, 2);
        dueRanges(s, "18: cost", -2, (x, a) -> x.cost(a[0]), new int[] {0}, 0, s.lastSleeper());
        dueRanges(s, "19: foretold", -2, (x, a) -> x.foretold(a[0], a[1], a[2]), new int[] {3, -1, 1},
            0, 60, -1, s.lastSleeper(), 0, 1);
    }

    // ---- what to do

    private static void numbersOfWhatToDo(Scene s) {
        dueRanges(s, "20: worth", -2, (x, a) -> x.worth(a[0]), new int[] {3}, 0, 9999);
        dueRanges(s, "21: reading", -2, (x, a) -> x.reading(a[0]), new int[] {0}, 0, s.lastSleeper());
        dueRanges(s, "22: waiting, the one", -10, (x, a) -> x.waiting(a[0], 0, a[1]), new int[] {1, 1},
            1, s.lastSleeper(), 0, 1);
        dueRanges(s, "22: waiting, the other", -10, (x, a) -> x.waiting(0, a[0], a[1]), new int[] {1, 1},
            1, s.lastSleeper(), 0, 1);
        for (int one = 0; one < 4; one++) {
            dueBad(s, "22: waiting, alike", -10, (x, a) -> x.waiting(a[0], a[0], a[1]), new int[] {one, 0});
        }
        dueRanges(s, "23: turns", -10, (x, a) -> x.turns(a[0], a[1]), new int[] {3, 1}, 0, 6, -1, MAX);
    }

    // ---- by odds

    private static void numbersOfOdds(Scene s) {
        dueRanges(s, "24: shoe", -2, (x, a) -> x.shoe(a[0], a[1], a[2]), new int[] {4, 4, 1}, 0, 10, 0, 9, 0, 1);
        dueRanges(s, "25: clap", -2, (x, a) -> x.clap(a[0], a[1], a[2]), new int[] {4, 4, 4}, 0, 10, 0, 10, 0, 8);
        dueRanges(s, "26: asleep", -2, (x, a) -> x.asleep(a[0], a[1], a[2], 0, a[3]), new int[] {4, 4, 4, 4},
            0, 10, 0, 10, 0, 10, 0, 6);
        for (int n = 0; n <= 6; n++) {
            int told = n;
            dueRanges(s, "26: asleep, breaths of " + n, -2, (x, a) -> x.asleep(5, 5, 5, a[0], told), new int[] {0},
                0, (1 << n) - 1);
        }
        dueRanges(s, "27: note", -2, (x, a) -> x.note(a[0], a[1]), new int[] {0, 1},
            0, s.lastSleeper(), 0, (1 << s.sleepers) - 1);
        dueRanges(s, "29: who", -2, (x, a) -> x.who(a[0]), new int[] {2}, 0, 4);
        dueRanges(s, "30: drawn", -2, (x, a) -> x.drawn(a[0], a[1], a[2]), new int[] {7, 7, 0},
            0, 999999, 0, 60, 0, s.lastSleeper());
    }

    // ---- what there is

    private static void numbersOfWhatThereIs(Scene s) {
        dueRanges(s, "31: part", -2, (x, a) -> x.part(a[0]), new int[] {0}, 0, 1);
        dueRanges(s, "32: image", -2, (x, a) -> x.image(a[0]), new int[] {0}, 0, 1);
        dueRanges(s, "33: from", -2, (x, a) -> x.from(a[0]), new int[] {0}, 0, 1);
        dueRanges(s, "34: status", -1, (x, a) -> x.status(a[0]), new int[] {0}, 0, 2);
        dueRanges(s, "35: count", -2, (x, a) -> x.count(a[0]), new int[] {0}, 0, 10);
    }

    // ---- NO and FULL

    private static final Scene UNDONE = new Scene("all undone", () -> {
        LastAwake x = full();
        for (int i = 0; i < 8; i++) {
            x.undo();
        }
        return x;
    }, 49, 4);

    private static void refusedAsNo() {
        dueRefused("13: undo()", NEW, -3, NO, LastAwake::undo);
        dueRefused("13: undo()", UNDONE, -3, NO, LastAwake::undo);
        dueRefused("33: from(0)", NEW, -3, NO, x -> x.from(0));
        dueRefused("33: from(1)", NEW, -3, NO, x -> x.from(1));
        dueRefused("33: from(1)", LIVED, -3, NO, x -> x.from(1));
        for (Scene s : SCENES) {
            dueRefused("26: asleep, who sleeps is never even", s, -3, NO, x -> x.asleep(10, 0, 5, 1, 1));
            dueRefused("26: asleep, who sleeps is always even", s, -3, NO, x -> x.asleep(10, 10, 5, 0, 1));
            dueRefused("26: asleep, who feigns is never even", s, -3, NO, x -> x.asleep(0, 5, 0, 32, 6));
            dueRefused("26: asleep, who feigns is always even", s, -3, NO, x -> x.asleep(0, 5, 10, 31, 6));
            dueRefused("26: asleep, neither is even", s, -3, NO, x -> x.asleep(5, 0, 0, 1, 1));
            dueRefused("26: asleep, once even and once not", s, -3, NO, x -> x.asleep(5, 10, 0, 1, 2));
        }
    }

    private static void refusedAsFull() {
        dueRefused("7: sleeper", CROWDED, -4, FULL, x -> x.sleeper(0, 0, 0, 0, 0));
        dueRefused("7: sleeper", CROWDED, -4, FULL, x -> x.sleeper(5, 120, 9, 20, 60));
        dueRefused("9: type", CROWDED, -4, FULL, x -> x.type(0));
        dueRefused("9: type", CROWDED, -4, FULL, x -> x.type(127));
        dueRefused("27: note", CROWDED, -4, FULL, x -> x.note(0, 0));
        dueRefused("27: note", CROWDED, -4, FULL, x -> x.note(3, 15));
    }

    /** "The first of: BAD; NO; FULL": where two would do, BAD it is. */
    private static void badComesFirst() {
        dueRefused("7: BAD ahead of FULL", CROWDED, -2, BAD, x -> x.sleeper(0, 0, 0, 0, 61));
        dueRefused("9: BAD ahead of FULL", CROWDED, -2, BAD, x -> x.type(128));
        dueRefused("26: BAD ahead of NO", LIVED, -2, BAD, x -> x.asleep(10, 0, 5, 3, 1));
        dueRefused("27: BAD ahead of FULL", CROWDED, -2, BAD, x -> x.note(4, 0));
        dueRefused("27: BAD ahead of FULL", CROWDED, -2, BAD, x -> x.note(0, 16));
        dueRefused("33: BAD ahead of NO", NEW, -2, BAD, x -> x.from(2));
    }

    // ---- what is no refusal, and changes nothing

    private static void answersThatAreNoRefusal() {
        dueAnswered("16: bed(), none", new Scene("1 by 1", () -> roomOf(1, 1), 1, 0), LastAwake::bed);
        dueAnswered("20: worth, none", NEW, x -> x.worth(1));
        dueAnswered("23: turns, nobody", NEW, x -> x.turns(3, -1));
        for (Scene s : SCENES) {
            dueAnswered("23: turns, not so many", s, x -> x.turns(3, 3));
            dueAnswered("23: turns, not so many", s, x -> x.turns(0, 0));
            dueAnswered("23: turns, not so many", s, x -> x.turns(6, MAX));
        }
        dueAnswered("11: read, a fault", NEW, LastAwake::read);
        dueAnswered("11: read, a fault", new Scene("a wrong text", () -> {
            LastAwake x = lived();
            type(x, "thing 4 0;");
            return x;
        }, 15, 2), x -> due2("11: read, a fault", x.read(), -10 - 20));
    }

    private static long due2(String call, long got, long want) {
        due(call, got, want);
        return got;
    }

    private static LastAwake roomOf(int w, int h) {
        LastAwake x = new LastAwake();
        x.room(w, h);
        return x;
    }

    /** "What is below changes nothing." */
    private static void askingChangesNothing(Scene s) {
        dueAnswered("14: about", s, x -> x.about(0, 2));
        dueAnswered("14: about", s, x -> x.about(1, 3));
        dueAnswered("15: way", s, x -> x.way(14, 3));
        dueAnswered("16: bed", s, LastAwake::bed);
        dueAnswered("17: tonight", s, x -> x.tonight(0));
        dueAnswered("18: cost", s, x -> x.cost(1));
        dueAnswered("19: foretold", s, x -> x.foretold(60, -1, 1));
        dueAnswered("19: foretold", s, x -> x.foretold(60, 1, 0));
        dueAnswered("20: worth", s, x -> x.worth(9999));
        dueAnswered("21: reading", s, x -> x.reading(0));
        dueAnswered("21: reading", s, x -> x.reading(1));
        dueAnswered("22: waiting", s, x -> x.waiting(0, 1, 0));
        dueAnswered("22: waiting", s, x -> x.waiting(1, 0, 1));
        dueAnswered("23: turns", s, x -> x.turns(6, -1));
        dueAnswered("23: turns", s, x -> x.turns(6, 5));
        dueAnswered("29: who", s, x -> x.who(2));
        dueAnswered("30: drawn", s, x -> x.drawn(999999, 60, 1));
        dueAnswered("31: part", s, x -> x.part(0));
        dueAnswered("34: status", s, x -> x.status(2));
        dueAnswered("35: count", s, x -> x.count(9));
        dueAnswered("36: digest", s, LastAwake::digest);
        // THE FRACTION is 1 by 2 there already, so all that could change is what should not.
        dueAnswered("24: shoe", s, x -> x.shoe(5, 1, 0));
        dueAnswered("25: clap", s, x -> x.clap(5, 10, 8));
        dueAnswered("26: asleep", s, x -> x.asleep(5, 7, 7, 21, 6));
    }

    public static void main(String[] args) {
        for (Scene s : SCENES) {
            numbersOfTheRoom(s);
            numbersOfBecome(s);
            numbersOfNights(s);
            numbersOfWhatToDo(s);
            numbersOfOdds(s);
            numbersOfWhatThereIs(s);
        }
        refusedAsNo();
        refusedAsFull();
        badComesFirst();
        answersThatAreNoRefusal();
        askingChangesNothing(LIVED);
        askingChangesNothing(CROWDED);
        System.out.println(wrong == 0 ? "all " + looks + " looks are as due" : wrong + " are not as due");
        if (wrong != 0) {
            System.exit(1);
        }
    }
}
