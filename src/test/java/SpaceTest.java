import com.sun.management.ThreadMXBean;
import java.lang.management.ManagementFactory;
import java.util.ArrayList;
import java.util.List;

/**
 * What a run makes is counted, and nothing of it is ever given back: an object makes its rows when it is made, an
 * image makes its own when it is first kept, and no other call makes anything at all, answered or refused.
 */
public final class SpaceTest {
    private static final int CALLS = 512;
    /* An object with both of its images stays far below the 600,000 objects and 7.3 million elements of a run. */
    private static final long MOST_BYTES_OF_OBJECT = 16384;

    private static final ThreadMXBean THREADS = (ThreadMXBean) ManagementFactory.getThreadMXBean();
    private static int wrong = 0;

    private interface Call {
        long on(LastAwake x);
    }

    private static final List<String> NAMES = new ArrayList<>();
    private static final List<Call> CALLS_OF = new ArrayList<>();

    private static void call(String name, Call call) {
        NAMES.add(name);
        CALLS_OF.add(call);
    }

    private static void hold(boolean holds, String what) {
        if (!holds) {
            wrong++;
            System.out.println("not so: " + what);
        }
    }

    private static long made() {
        return THREADS.getCurrentThreadAllocatedBytes();
    }

    /** Four sleepers, things, eight notes, nights, a full text. */
    private static LastAwake livedIn() {
        LastAwake x = new LastAwake();
        x.room(7, 7);
        for (int c = 0; c < 49; c++) {
            x.things(c, (c * 5 + 3) % 10);
        }
        for (int s = 0; s < 4; s++) {
            x.sleeper(s + 1, 30 * s, s + 2, 5 * s, 15 * s);
        }
        for (int n = 0; n < 8; n++) {
            x.note(n % 4, n + 3);
        }
        String text = "room 7 7;switch 3;bed 48;thing 9 9;moon 2;cord;sleeper 5 120 9 20 60;up 0 120;";
        for (int i = 0; i < text.length(); i++) {
            x.type(text.charAt(i));
        }
        x.pass(30);
        return x;
    }

    private static void roomCalls() {
        call("2: room", x -> x.room(7, 7));
        call("2: room, refused", x -> x.room(0, 8));
        call("3: place", x -> x.place(1, 40));
        call("4: things", x -> x.things(20, 9));
        call("5: moon", x -> x.moon(85));
        call("6: cord", x -> x.cord(0));
        call("7: sleeper", x -> x.sleeper(4, 60, 9, 20, 60));
        call("8: become", x -> x.become(0, 5, 50));
        call("9: type", x -> x.type(32));
        call("10: clear", x -> x.clear());
        call("11: read", x -> x.read());
    }

    private static void nightCalls() {
        call("12: pass", x -> x.pass(30));
        call("13: undo", x -> x.undo());
        call("14: about", x -> x.about(0, 3));
        call("15: way", x -> x.way(0, 48));
        call("16: bed", x -> x.bed());
        call("17: tonight", x -> x.tonight(0));
        call("18: cost", x -> x.cost(0));
        call("19: foretold", x -> x.foretold(60, -1, 1));
        call("20: worth", x -> x.worth(9999));
        call("21: reading", x -> x.reading(0));
        call("22: waiting", x -> x.waiting(0, 1, 0));
        call("23: turns", x -> x.turns(6, 5));
    }

    private static void otherCalls() {
        call("24: shoe", x -> x.shoe(3, 9, 1));
        call("25: clap", x -> x.clap(3, 7, 8));
        call("26: asleep", x -> x.asleep(5, 9, 2, 21, 6));
        call("27: note", x -> x.note(0, 1));
        call("28: burn", x -> x.burn());
        call("29: who", x -> x.who(1));
        call("30: drawn", x -> x.drawn(999999, 60, 0));
        call("31: part", x -> x.part(0));
        call("32: image", x -> x.image(0));
        call("33: from", x -> x.from(0));
        call("34: status", x -> x.status(0));
        call("35: count", x -> x.count(8));
        call("36: digest", x -> x.digest());
    }

    private static LastAwake objectWithImages() {
        LastAwake x = new LastAwake();
        x.image(0);
        x.image(1);
        return x;
    }

    /**
     * What the first call of each kind makes is the machine's own (classes that it loads, texts that stand in the
     * file), so all come once ahead.
     */
    private static void warmUp() {
        objectWithImages();
        for (Call call : CALLS_OF) {
            call.on(livedIn());
        }
        made();
    }

    private static long madeIn(Call call, LastAwake x, int times) {
        long ahead = made();
        for (int i = 0; i < times; i++) {
            call.on(x);
        }
        return made() - ahead;
    }

    public static void main(String[] args) {
        roomCalls();
        nightCalls();
        otherCalls();
        warmUp();
        long ofLooking = madeIn(x -> 0, null, 1);
        long ahead = made();
        objectWithImages();
        long ofObject = made() - ahead;
        hold(ofObject <= MOST_BYTES_OF_OBJECT, "an object and its images are small: " + ofObject + " bytes");
        for (int i = 0; i < CALLS_OF.size(); i++) {
            LastAwake x = livedIn();
            x.image(0);
            long bytes = madeIn(CALLS_OF.get(i), x, CALLS) - ofLooking;
            hold(bytes <= 0, NAMES.get(i) + " makes nothing: " + bytes + " bytes in " + CALLS + " calls");
        }
        System.out.println(wrong == 0 ? "no call makes anything, and an object has " + ofObject + " bytes"
            : wrong + " calls make something");
        if (wrong != 0) {
            System.exit(1);
        }
    }
}
