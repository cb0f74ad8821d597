import java.util.Arrays;

/**
 * What is empty, what is full, and what lies just at an end and just beyond it: a test for each sentence of the
 * document that names such a case, in its order. (Numbers beyond their ends are RefusedTest's, texts TextTest's.)
 */
public final class EdgesTest {
    private static int wrong = 0;
    private static int looks = 0;

    private static void due(String call, long got, long want) {
        looks++;
        if (got != want) {
            wrong++;
            System.out.println(call + " answered " + got + ", due is " + want);
        }
    }

    private static void dueTonight(String when, LastAwake x, int minute, int by, int anyhow) {
        due("17: " + when + ": the MINUTE", x.tonight(0), minute);
        due("17: " + when + ": who", x.tonight(1), by);
        due("17: " + when + ": whether ANYHOW", x.tonight(2), anyhow);
    }

    private static void dueFraction(String when, LastAwake x, int answer, long above, long below) {
        due(when, answer, 1);
        due(when + ": above", x.part(0), above);
        due(when + ": below", x.part(1), below);
    }

    /** One cell, so that nobody has a way to go. */
    private static LastAwake closet() {
        LastAwake x = new LastAwake();
        x.room(1, 1);
        return x;
    }

    private static LastAwake roomOf(int w, int h) {
        LastAwake x = new LastAwake();
        x.room(w, h);
        return x;
    }

    // ---- THE ROOM

    /** "6 by 4 at first; SWITCH 0; BED the last one; THINGS 0; MOON 0; nobody; THE FRACTION 0 by 1." */
    private static void asAtFirst() {
        LastAwake x = new LastAwake();
        int[] counts = {6, 4, 0, 23, 0, 0, 0, 0, 0, 0, 0};
        for (int what = 0; what <= 10; what++) {
            due("1: count(" + what + ")", x.count(what), counts[what]);
        }
        for (int c = 0; c < 24; c++) {
            due("1: THINGS of " + c, x.things(c, 0), 0);
        }
        due("1: above", x.part(0), 0);
        due("1: below", x.part(1), 1);
        due("1: BAD", x.status(0), 0);
        due("1: NO", x.status(1), 0);
        due("1: FULL", x.status(2), 0);
        due("1: no text", x.clear(), 0);
        due("1: no notes", x.burn(), 0);
        due("1: nobody", x.about(0, 0), -100000);
        due("1: nothing to undo", x.undo(), -3);
        due("1: no image 0", x.from(0), -3);
        due("1: no image 1", x.from(1), -3);
    }

    /** "W by H CELLS (1 .. 7 each), CELL x and W y": every size there is. */
    private static void sizes() {
        for (int w = 1; w <= 7; w++) {
            for (int h = 1; h <= 7; h++) {
                LastAwake x = new LastAwake();
                due("2: room", x.room(w, h), 1);
                due("2: W", x.count(0), w);
                due("2: H", x.count(1), h);
                due("2: BED in the last", x.count(3), w * h - 1);
                due("3: the last cell", x.place(0, w * h - 1), 0);
                due("3: one beyond", x.place(0, w * h), -2);
                due("4: the last cell", x.things(w * h - 1, 9), 0);
                due("4: one beyond", x.things(w * h, 9), -2);
                due("15: from corner to corner", x.way(w * h - 1, 0), 2 * (w + h - 2));
                due("15: one beyond", x.way(w * h, 0), -2);
                due("15: the last one's own things", x.way(0, w * h - 1), w * h == 1 ? 0 : 2 * (w + h - 2) + 9);
            }
        }
    }

    /** A room that was larger leaves nothing behind in one that is as large again. */
    private static void roomLeavesNothing() {
        LastAwake x = roomOf(7, 7);
        for (int c = 0; c < 49; c++) {
            x.things(c, 9);
        }
        x.room(1, 1);
        x.room(7, 7);
        for (int c = 0; c < 49; c++) {
            due("2: THINGS of " + c, x.things(c, 0), 0);
        }
        due("15: the way is as at first", x.way(48, 0), 24);
    }

    /** "Steps to CELLS beside (4)": the end of a row is not beside the next row's beginning. */
    private static void rowsDoNotWrap() {
        LastAwake x = new LastAwake();
        due("15: the end of a row and the next", x.way(5, 6), 12);
        due("15: the next and the end of a row", x.way(6, 5), 12);
        due("15: the first row and the last", x.way(0, 18), 6);
        due("15: not across a corner", x.way(0, 7), 4);
        x.room(1, 7);
        due("15: one column", x.way(0, 6), 12);
        x.room(7, 1);
        due("15: one row", x.way(6, 0), 12);
    }

    /** "The THINGS of each CELL that is come to (from the second one on); 0, if they are one." */
    private static void ways() {
        LastAwake x = roomOf(2, 1);
        x.things(0, 9);
        due("15: not those of the first", x.way(0, 1), 2);
        due("15: those of the last", x.way(1, 0), 11);
        due("15: they are one", x.way(0, 0), 0);
        x.moon(1);
        due("15: the moon is there", x.way(1, 0), 2);
        x.moon(2);
        due("15: the moon is elsewhere", x.way(1, 0), 11);
        x.moon(124);
        due("15: the moon is beyond the room", x.way(1, 0), 11);
        x.moon(127);
        due("15: the moon is in each column", x.way(1, 0), 2);
        x = roomOf(7, 7);
        for (int c = 0; c < 49; c++) {
            x.things(c, 9);
        }
        due("15: the longest", x.way(48, 0), 12 * 11);
        x.moon(64);
        due("15: the last column by the moon", x.way(6, 48), 12);
        due("15: to it, and back", x.way(5, 6) + x.way(6, 5), 2 + 11);
        x = roomOf(3, 3);
        x.things(1, 4);
        due("15: through, or around, like", x.way(0, 2), 8);
        x.things(1, 3);
        due("15: through", x.way(0, 2), 7);
        x.things(1, 5);
        due("15: around", x.way(0, 2), 8);
        x.things(4, 9);
        due("15: over one rather than around", x.way(0, 2), 9);
    }

    /** Rooms in which the least ways wind to and fro as much as they can, held against ways over each CELL in turn. */
    private static void windingWays() {
        dueWays(7, "0009980" + "0900597" + "9004196" + "0056663" + "0999783" + "0109293" + "7004023");
        dueWays(5, "04002" + "99906" + "80003" + "80899" + "00299" + "08568" + "00000");
        dueWays(7, "3880000" + "0900790" + "2029900" + "5981509" + "5761647");
        dueWays(3, "000" + "890" + "714" + "008" + "069" + "260" + "001");
        dueWays(7, "1890001" + "0720760" + "0029930");
    }

    private static void dueWays(int w, String things) {
        int[][] least = leastWays(w, things);
        for (int to = 0; to < things.length(); to++) {
            LastAwake x = roomOf(w, things.length() / w);
            for (int c = 0; c < things.length(); c++) {
                x.things(c, things.charAt(c) - '0');
            }
            for (int from = 0; from < things.length(); from++) {
                due("15: way(" + from + ", " + to + ") of " + things, x.way(from, to), least[from][to]);
            }
        }
    }

    private static int[][] leastWays(int w, String things) {
        int cells = things.length();
        int[][] least = new int[cells][cells];
        for (int a = 0; a < cells; a++) {
            for (int b = 0; b < cells; b++) {
                boolean beside = Math.abs(a % w - b % w) + Math.abs(a / w - b / w) == 1;
                least[a][b] = a == b ? 0 : beside ? 2 + things.charAt(b) - '0' : 10000;
            }
        }
        for (int over = 0; over < cells; over++) {
            for (int a = 0; a < cells; a++) {
                for (int b = 0; b < cells; b++) {
                    least[a][b] = Math.min(least[a][b], least[a][over] + least[over][b]);
                }
            }
        }
        return least;
    }

    // ---- SLEEPERS

    /** "0 .. 3, as they come": four, and no fifth; "never UP; COUNT 0 at first". */
    private static void sleepers() {
        LastAwake x = new LastAwake();
        for (int i = 0; i < 4; i++) {
            due("8: not there yet", x.become(i, 0, 0), -10);
            due("7: sleeper", x.sleeper(0, 0, 0, 0, 0), i);
            due("8: never UP", x.become(i, 5, -1), -1);
            due("14: COUNT", x.about(i, 0), 0);
            due("14: PAID", x.about(i, 1), 0);
            due("35: SLEEPERS", x.count(6), i + 1);
        }
        due("7: a fifth", x.sleeper(0, 0, 0, 0, 0), -4);
        due("35: SLEEPERS", x.count(6), 4);
        due("34: FULL", x.status(2), 1);
    }

    /** A bed that another slept in: who comes is new. */
    private static void whoComesIsNew() {
        LastAwake x = closet();
        x.sleeper(4, 120, 9, 20, 60);
        x.become(0, 5, 120);
        x.pass(3);
        x.room(1, 1);
        due("7: the first again", x.sleeper(0, 0, 0, 0, 0), 0);
        for (int what = 0; what <= 4; what++) {
            due("7: as told, what " + what, x.become(0, what, 0), 0);
        }
        due("7: never UP", x.become(0, 5, -1), -1);
        due("7: COUNT", x.about(0, 0), 0);
        due("7: PAID", x.about(0, 1), 0);
    }

    // ---- WAITS

    private static void dueWaits(LastAwake x, String when, int... want) {
        for (int kind = 0; kind < 6; kind++) {
            x.become(0, 0, kind);
            due("14: WAITS of kind " + kind + ", " + when, x.about(0, 2), want[kind]);
        }
    }

    /** "Half (cut)"; "by 4 (cut)"; "5 for each by which his COUNT is more than the least one of all". */
    private static void waits() {
        LastAwake x = closet();
        x.sleeper(0, 0, 0, 0, 0);
        dueWaits(x, "nothing", 0, 0, 0, 0, 20, 0);
        x.become(0, 4, 1);
        dueWaits(x, "PATIENCE 1", 1, 1, 2, 0, 22, 0);
        x.become(0, 1, 3);
        dueWaits(x, "READS 3", 1, 1, 2, 0, 22, 0);
        x.become(0, 1, 4);
        dueWaits(x, "READS 4", 1, 1, 2, 0, 22, 1);
        x.become(0, 1, 7);
        x.become(0, 4, 59);
        dueWaits(x, "both are cut, each by itself", 59, 59, 118, 29, 138, 30);
        x.become(0, 1, 120);
        x.become(0, 4, 60);
        dueWaits(x, "the most", 60, 60, 120, 30, 140, 60);
        x.pass(30);
        dueWaits(x, "alone his COUNT is the least", 60, 60, 120, 30, 140, 60);
        x.sleeper(0, 0, 0, 0, 0);
        dueWaits(x, "30 more than who came", 60, 210, 420, 30, 440, 60);
        x.pass(29);
        due("14: COUNT of who came", x.about(1, 0), 29);
        dueWaits(x, "one more than the least", 60, 65, 130, 30, 150, 60);
        x.pass(1);
        dueWaits(x, "like the least", 60, 60, 120, 30, 140, 60);
        x.pass(1);
        dueWaits(x, "he is the least now", 60, 60, 120, 30, 140, 60);
        x.sleeper(0, 120, 0, 0, 60);
        dueWaits(x, "the least of three, not of the next", 60, 210, 420, 30, 440, 60);
    }

    /** "As COUNTS are ahead of the night." */
    private static void countsAheadOfTheNight() {
        LastAwake x = closet();
        x.sleeper(1, 0, 0, 0, 10);
        x.sleeper(0, 0, 0, 0, 14);
        dueTonight("COUNTS are like", x, 10, 0, 0);
        x.pass(1);
        due("14: he waits 5 more", x.about(0, 2), 15);
        dueTonight("behind his night", x, 14, 1, 0);
        x.pass(1);
        dueTonight("COUNTS are like again", x, 10, 0, 0);
        x.undo();
        dueTonight("undone: as ahead of it", x, 14, 1, 0);
    }

    // ---- A NIGHT

    /** "One who is UP in it and READS no longer (his MINUTE is it, or ahead of it)." */
    private static void upAnyhow() {
        LastAwake x = closet();
        x.sleeper(0, 30, 0, 5, 60);
        x.become(0, 5, 29);
        dueTonight("UP while he READS", x, 90, 0, 0);
        due("18: he gets up", x.cost(0), 5);
        x.become(0, 5, 30);
        dueTonight("UP as he READS no longer", x, 30, 0, 1);
        due("18: he is up", x.cost(0), 0);
        x.become(0, 5, 31);
        dueTonight("UP behind that", x, 31, 0, 1);
        x.become(0, 5, 120);
        dueTonight("he has waited ahead of it", x, 90, 0, 0);
        x.become(0, 5, 91);
        dueTonight("one behind his wait", x, 90, 0, 0);
        x.become(0, 5, 90);
        dueTonight("in one MINUTE: ANYHOW comes first", x, 90, 0, 1);
        x.become(0, 5, 89);
        dueTonight("one ahead of his wait", x, 89, 0, 1);
        x.become(0, 1, 0);
        x.become(0, 5, 0);
        dueTonight("in MINUTE 0", x, 0, 0, 1);
        x.become(0, 1, 120);
        x.become(0, 5, 120);
        dueTonight("in MINUTE 120", x, 120, 0, 1);
        x.become(0, 5, 119);
        dueTonight("he READS till 120", x, 180, 0, 0);
        x.become(0, 5, -1);
        dueTonight("never UP", x, 180, 0, 0);
    }

    /** "First, in order, one who is UP; if none did, the first one in order who has WAITED." */
    private static void inOrder() {
        LastAwake x = closet();
        for (int i = 0; i < 4; i++) {
            x.sleeper(0, 0, 0, 0, 20);
        }
        dueTonight("of four who waited the first", x, 20, 0, 0);
        x.become(3, 5, 20);
        dueTonight("the last one is up", x, 20, 3, 1);
        x.become(2, 5, 20);
        dueTonight("of two who are up the first", x, 20, 2, 1);
        x.become(0, 5, 21);
        dueTonight("one MINUTE too late", x, 20, 2, 1);
        x.become(1, 5, 19);
        dueTonight("one MINUTE ahead", x, 19, 1, 1);
        x.become(1, 1, 20);
        dueTonight("but he READS", x, 20, 2, 1);
        x.become(3, 4, 19);
        dueTonight("one has waited ahead of all", x, 19, 3, 0);
        x.become(2, 4, 19);
        dueTonight("two have", x, 19, 2, 0);
        x.become(3, 4, 18);
        dueTonight("the last one first", x, 18, 3, 0);
        x.become(0, 4, 0);
        dueTonight("in MINUTE 0", x, 0, 0, 0);
        x.become(3, 5, 0);
        dueTonight("up in MINUTE 0", x, 0, 3, 1);
    }

    /** "By MINUTE 300 it burns out: nobody puts it out." Whoever has the least COUNT does by 260. */
    private static void burnsOut() {
        LastAwake x = new LastAwake();
        dueTonight("nobody is there", x, 300, -1, 0);
        due("12: nights of nobody", x.pass(30), 0);
        due("35: nights", x.count(8), 30);
        due("35: that may be undone", x.count(9), 8);
        due("13: undo of nobody's", x.undo(), 1);
        due("35: nights", x.count(8), 29);
        due("19: COUNT of nobody", x.foretold(60, -1, 0), 0);
        due("19: PAID of nobody", x.foretold(60, -1, 1), 0);
        due("29: who, of nobody", x.who(0), 0);
        due("29: who, of nobody", x.who(4), 0);
        for (int i = 0; i < 4; i++) {
            x.sleeper(4, 120, 0, 0, 60);
        }
        dueTonight("four who wait longest", x, 260, 0, 0);
        x.pass(1);
        dueTonight("the second", x, 260, 1, 0);
        x.pass(3);
        dueTonight("the first again", x, 260, 0, 0);
    }

    /** "HATES for each MINUTE from that till which he READS on; 3 for each by which it went out ahead of that." */
    private static void costs() {
        LastAwake x = closet();
        x.sleeper(0, 50, 0, 0, 0);
        x.sleeper(0, 51, 9, 20, 60);
        due("18: one MINUTE ahead", x.cost(1), 3);
        x.become(1, 1, 50);
        due("18: just then", x.cost(1), 0);
        x.become(1, 1, 49);
        due("18: one MINUTE behind", x.cost(1), 9);
        x.become(1, 2, 0);
        due("18: who hates it not", x.cost(1), 0);
        x.become(1, 1, 120);
        due("18: READS 120, out in 50", x.cost(1), 210);
        x.become(0, 1, 0);
        due("18: READS 120, out in 0", x.cost(1), 360);
        x.become(0, 0, 4);
        x.become(0, 1, 120);
        x.become(0, 4, 60);
        x.become(1, 0, 4);
        x.become(1, 2, 9);
        due("18: the longest night", x.cost(1), 9 * 140);
        x.become(0, 2, 9);
        x.become(0, 3, 20);
        due("18: who puts it out then", x.cost(0), 9 * 140 + 20);
    }

    /** "COLD, if he was not up ANYHOW, and twice the WAY from BED to SWITCH (with a CORD: neither)." */
    private static void errands() {
        LastAwake x = roomOf(7, 7);
        for (int c = 0; c < 49; c++) {
            x.things(c, 9);
        }
        x.sleeper(0, 0, 0, 20, 0);
        due("18: the longest way", x.cost(0), 20 + 264);
        x.become(0, 5, 0);
        due("18: up ANYHOW", x.cost(0), 264);
        x.cord(1);
        due("18: up ANYHOW, with a CORD", x.cost(0), 0);
        x.become(0, 5, -1);
        due("18: with a CORD", x.cost(0), 0);
        x.cord(0);
        x.place(1, 0);
        due("18: BED and SWITCH in one CELL", x.cost(0), 20);
        x.place(1, 1);
        x.things(1, 9);
        x.things(0, 0);
        due("18: there is no THING on the way to the SWITCH", x.cost(0), 20 + 4);
        x.place(1, 0);
        x.place(0, 1);
        due("18: the SWITCH's own are on it", x.cost(0), 20 + 22);
        x.moon(2);
        due("18: by the moon", x.cost(0), 20 + 4);
    }

    /** What is asked behind a change of the floor is of the floor as it is, in an IMAGE's room, too. */
    private static void errandsFollowTheFloor() {
        LastAwake x = roomOf(7, 1);
        x.sleeper(0, 60, 0, 0, 0);
        dueErrand("the BED is far", x, 24);
        x.image(0);
        x.place(1, 1);
        dueErrand("the BED is near", x, 4);
        x.image(1);
        x.things(0, 9);
        dueErrand("THINGS are by the SWITCH", x, 22);
        x.moon(1);
        dueErrand("the moon comes", x, 4);
        x.moon(2);
        dueErrand("the moon goes", x, 22);
        x.place(0, 2);
        dueErrand("the SWITCH is on the other side", x, 4);
        x.from(0);
        dueErrand("the first IMAGE", x, 24);
        x.from(1);
        dueErrand("the second IMAGE", x, 4);
        x.cord(1);
        due("18: a CORD", x.cost(0), 0);
        due("19: a CORD", x.foretold(1, -1, 1), 0);
        due("23: a CORD", x.turns(1, -1), 0);
        x.room(4, 1);
        x.sleeper(0, 60, 0, 0, 0);
        dueErrand("another room", x, 12);
        for (char c : "room 2 1;sleeper 0 60 0 0 0;".toCharArray()) {
            x.type(c);
        }
        x.read();
        dueErrand("a room that is read", x, 4);
        x.clear();
        for (char c : "room 7 7;bed 9;thing 0 10;".toCharArray()) {
            x.type(c);
        }
        due("11: a fault", x.read(), -10 - 23);
        dueErrand("a fault changes nothing", x, 4);
    }

    private static void dueErrand(String when, LastAwake x, int errand) {
        due("19: " + when, x.foretold(1, 0, 1), errand);
        due("18: " + when, x.cost(0), errand);
        due("20: " + when, x.worth(errand), 1);
        due("20: " + when, x.worth(errand + 1), 2);
        due("23: " + when, x.turns(1, -1), errand);
        due("12: " + when, x.pass(1), 1);
        due("14: " + when, x.about(0, 1), errand);
        due("13: " + when, x.undo(), 1);
    }

    // ---- pass

    /** "n (1 .. 30) nights": as many one by one as at once. */
    private static void passes() {
        LastAwake x = crowd();
        LastAwake y = crowd();
        due("12: 30 at once", x.pass(30), 30);
        for (int i = 0; i < 30; i++) {
            due("12: one", y.pass(1), 1);
        }
        due("12: they are like", x.digest(), y.digest());
        due("35: nights", x.count(8), 30);
    }

    private static LastAwake crowd() {
        LastAwake x = roomOf(4, 3);
        x.things(5, 9);
        x.sleeper(1, 10, 1, 2, 3);
        x.sleeper(2, 0, 2, 3, 4);
        x.sleeper(4, 7, 3, 4, 5);
        x.sleeper(3, 12, 4, 5, 60);
        return x;
    }

    /** As many nights as 512 calls can have, at the most that a night can cost. */
    private static void manyNights() {
        LastAwake x = roomOf(7, 7);
        for (int c = 0; c < 49; c++) {
            x.things(c, 9);
        }
        x.sleeper(4, 120, 9, 20, 60);
        int night = 9 * 140 + 20 + 264;
        for (int i = 0; i < 440; i++) {
            x.pass(30);
        }
        due("35: nights", x.count(8), 13200);
        due("14: COUNT", x.about(0, 0), 13200);
        due("14: PAID", x.about(0, 1), 13200 * night);
        due("14: FELT", x.about(0, 3), 26400);
        due("19: PAID behind 60", x.foretold(60, -1, 1), 13260 * night);
        due("13: undo", x.undo(), 1);
        due("14: PAID", x.about(0, 1), 13199 * night);
    }

    // ---- undo

    /** "8 at most": behind each number of nights, as far back as may be, each as it was. */
    private static void undoing() {
        for (int nights = 0; nights <= 20; nights++) {
            LastAwake x = crowd();
            long[] was = new long[nights + 1];
            for (int i = 0; i <= nights; i++) {
                was[i] = x.about(0, 0) + 31 * (x.about(1, 1) + 31 * (x.about(2, 1) + 31 * x.about(3, 1)));
                if (i < nights) {
                    x.pass(1);
                }
            }
            int may = Math.min(nights, 8);
            for (int i = 1; i <= may; i++) {
                due("35: that may be undone", x.count(9), may - i + 1);
                due("13: undo", x.undo(), 1);
                due("35: nights", x.count(8), nights - i);
                long now = x.about(0, 0) + 31 * (x.about(1, 1) + 31 * (x.about(2, 1) + 31 * x.about(3, 1)));
                due("13: as ahead of night " + (nights - i), now, was[nights - i]);
            }
            due("35: none", x.count(9), 0);
            due("13: none may be", x.undo(), -3);
            due("34: NO", x.status(1), 1);
            due("35: nights", x.count(8), nights - may);
        }
    }

    /** Nights that are undone and passed again, round and round: the old ones are still there. */
    private static void undoingAgain() {
        LastAwake x = crowd();
        x.pass(9);
        long nine = x.digest();
        x.undo();
        x.pass(1);
        due("13: passed again it is the same", x.digest(), nine);
        x.undo();
        x.undo();
        x.undo();
        due("35: five are left", x.count(9), 5);
        x.pass(2);
        due("35: seven", x.count(9), 7);
        x.pass(3);
        due("35: eight", x.count(9), 8);
        due("35: nights", x.count(8), 11);
        for (int i = 0; i < 8; i++) {
            due("13: undo", x.undo(), 1);
        }
        LastAwake y = crowd();
        y.pass(3);
        due("13: nights", x.count(8), 3);
        for (int s = 0; s < 4; s++) {
            due("13: COUNT of " + s, x.about(s, 0), y.about(s, 0));
            due("13: PAID of " + s, x.about(s, 1), y.about(s, 1));
        }
        due("13: no more", x.undo(), -3);
    }

    /** "SLEEPERS that came since stay as they are"; and what is not COUNT, PAID or nights is not undone. */
    private static void undoingWithNewOnes() {
        LastAwake x = closet();
        x.pass(1);
        x.sleeper(0, 0, 0, 7, 0);
        x.pass(1);
        x.sleeper(0, 10, 0, 0, 0);
        due("13: undo", x.undo(), 1);
        due("13: his COUNT", x.about(0, 0), 0);
        due("13: his PAID", x.about(0, 1), 0);
        due("13: who came since", x.about(1, 1), 0);
        x.pass(1);
        due("14: now he paid", x.about(1, 1), 30);
        due("13: undo", x.undo(), 1);
        due("13: now he was there", x.about(1, 1), 0);
        x.pass(1);
        x.undo();
        x.pass(1);
        due("13: a night of nobody's is still there", x.count(9), 2);
        x.undo();
        x.become(0, 4, 60);
        x.things(0, 3);
        x.moon(1);
        x.cord(1);
        x.note(0, 1);
        x.type(59);
        due("13: undo of it", x.undo(), 1);
        due("13: who came since stays", x.about(1, 1), 0);
        due("35: SLEEPERS stay", x.count(6), 2);
        due("8: what he became stays", x.become(0, 4, 60), 60);
        due("4: THINGS stay", x.things(0, 3), 3);
        due("5: MOON stays", x.moon(1), 1);
        due("6: CORD stays", x.cord(1), 1);
        due("35: NOTES stay", x.count(7), 1);
        due("35: THE TEXT stays", x.count(10), 1);
        due("13: none", x.undo(), -3);
    }

    /** One who came between, and paid behind an undone night's place: he keeps what he has. */
    private static void whoCameSinceKeeps() {
        LastAwake x = closet();
        x.sleeper(0, 0, 0, 1, 0);
        x.pass(1);
        x.sleeper(0, 10, 0, 0, 0);
        x.pass(1);
        due("14: he paid", x.about(1, 1), 30);
        x.undo();
        due("13: the night that he had is undone", x.about(1, 1), 0);
        x.undo();
        due("13: COUNT of the first", x.about(0, 0), 0);
        due("13: he stays", x.count(6), 2);
        x.pass(1);
        due("14: both were there now", x.about(1, 1), 30);
        due("13: undo", x.undo(), 1);
        due("13: undone for both", x.about(1, 1), 0);
    }

    // ---- FELT, BED

    /** "Twice his COUNT less the others' COUNTS together" (it may be below 0). */
    private static void felt() {
        LastAwake x = closet();
        x.sleeper(0, 0, 0, 0, 0);
        due("14: FELT at first", x.about(0, 3), 0);
        x.pass(5);
        due("14: FELT alone", x.about(0, 3), 10);
        x.sleeper(0, 1, 0, 0, 0);
        x.sleeper(0, 1, 0, 0, 0);
        x.sleeper(0, 1, 0, 0, 0);
        due("14: FELT by one who came", x.about(3, 3), -5);
        due("14: FELT by the one", x.about(0, 3), 10);
        x.become(0, 4, 2);
        x.pass(7);
        due("14: FELT by the one", x.about(0, 3), 3);
        due("14: FELT by the other", x.about(1, 3), 9);
        due("14: FELT by the third", x.about(2, 3), -12);
    }

    /** "Without THINGS, not that of the SWITCH; of like ones the first; none." */
    private static void beds() {
        LastAwake x = closet();
        due("16: one CELL", x.bed(), -1);
        x = roomOf(7, 7);
        for (int c = 0; c < 49; c++) {
            x.things(c, 1);
        }
        due("16: THINGS in each", x.bed(), -1);
        x.things(0, 0);
        due("16: but in the SWITCH's", x.bed(), -1);
        x.things(48, 0);
        due("16: the last one alone", x.bed(), 48);
        x.things(42, 0);
        due("16: one nearer", x.bed(), 42);
        x.things(6, 0);
        due("16: of like ones the first", x.bed(), 6);
        x.moon(127);
        due("16: THINGS in the moon are THINGS", x.bed(), 6);
        x.place(1, 6);
        due("16: where the BED is counts for nothing", x.bed(), 6);
        x.place(0, 6);
        due("16: now the SWITCH is there", x.bed(), 0);
        x.room(3, 1);
        x.place(0, 1);
        due("16: on both sides", x.bed(), 0);
        x.things(0, 1);
        due("16: on the other side", x.bed(), 2);
        // From 2 one comes to the SWITCH at once; its own THINGS are on every way.
        x.things(1, 9);
        due("16: the SWITCH's own THINGS", x.bed(), 2);
        x = roomOf(3, 2);
        x.place(0, 5);
        x.things(1, 1);
        x.things(2, 5);
        x.things(4, 1);
        due("16: over the fewer THINGS", x.bed(), 3);
        // From 0 it is 3, 3 and 2 by the first row; from 3 the same and 2, or 11 and 2.
        x.things(4, 9);
        x.things(2, 1);
        due("16: farther, but over fewer", x.bed(), 0);
    }

    // ---- FORETOLD, CORD

    /** "Behind n nights (0 .. 60)": as if they had gone by. */
    private static void foretold() {
        for (int n = 0; n <= 60; n++) {
            LastAwake x = crowd();
            LastAwake y = crowd();
            x.pass(4);
            y.pass(4);
            for (int i = 0; i < n; i++) {
                y.pass(1);
            }
            int counts = 0;
            int paid = 0;
            for (int s = 0; s < 4; s++) {
                due("19: COUNT behind " + n, x.foretold(n, s, 0), y.about(s, 0));
                due("19: PAID behind " + n, x.foretold(n, s, 1), y.about(s, 1));
                counts += y.about(s, 0);
                paid += y.about(s, 1);
            }
            due("19: COUNTS behind " + n, x.foretold(n, -1, 0), counts);
            due("19: each was put out", counts, 4 + n);
            due("19: all PAID behind " + n, x.foretold(n, -1, 1), paid);
        }
    }

    /** "A price (0 .. 9999); the fewest nights (0 .. 60); none." */
    private static void cords() {
        LastAwake x = new LastAwake();
        due("20: nobody, for nothing", x.worth(0), 0);
        due("20: nobody", x.worth(1), -1);
        x = closet();
        x.sleeper(0, 0, 0, 0, 0);
        due("20: nothing is saved", x.worth(1), -1);
        x.become(0, 3, 1);
        due("20: 1 a night, 1", x.worth(1), 1);
        due("20: 1 a night, 2", x.worth(2), 2);
        due("20: 1 a night, 60", x.worth(60), 60);
        due("20: 1 a night, 61", x.worth(61), -1);
        x.become(0, 5, 0);
        due("20: up anyhow nothing is saved", x.worth(1), -1);
        x = roomOf(7, 7);
        for (int c = 0; c < 49; c++) {
            x.things(c, 9);
        }
        x.sleeper(0, 0, 9, 20, 0);
        due("20: 284 a night, 9999", x.worth(9999), 36);
        due("20: 284 a night, 284", x.worth(284), 1);
        due("20: 284 a night, 285", x.worth(285), 2);
        x.cord(1);
        due("20: whether there is one or not", x.worth(285), 2);
        x = closet();
        x.sleeper(1, 0, 0, 10, 0);
        x.sleeper(0, 3, 0, 1, 0);
        // 10 in the first night; then he waits 5: the other does, for 1; then 10 again.
        due("20: by turns, 10", x.worth(10), 1);
        due("20: by turns, 11", x.worth(11), 2);
        due("20: by turns, 12", x.worth(12), 3);
        due("20: by turns, 330", x.worth(330), 60);
        due("20: by turns, 331", x.worth(331), -1);
    }

    // ---- READ

    /** "The MINUTE (0 .. 120); none when it is out; of like ones the least." */
    private static void reads() {
        LastAwake x = closet();
        x.sleeper(0, 30, 0, 0, 0);
        due("21: the most", x.reading(0), 120);
        x.sleeper(0, 0, 0, 0, 0);
        due("21: it is out at once", x.reading(0), 0);
        x.become(1, 1, 1);
        due("21: it is out in 1", x.reading(0), 1);
        x.become(1, 1, 119);
        due("21: it is out in 119", x.reading(0), 119);
        x.become(1, 1, 120);
        due("21: it is out in 120", x.reading(0), 120);
        x.become(0, 3, 20);
        x.become(1, 1, 60);
        // Till 60 he would get up himself, being the first of two: one more costs 3 and brings nothing, but no COLD.
        due("21: one more, and no COLD", x.reading(0), 61);
        x.become(0, 3, 3);
        due("21: as dear as COLD: the least", x.reading(0), 60);
        x.become(0, 3, 4);
        due("21: less dear than COLD", x.reading(0), 61);
        x.become(0, 1, 7);
        due("21: what he READS now counts for nothing", x.reading(0), 61);
        due("8: and stays", x.become(0, 1, 7), 7);
    }

    /** "2 for each MINUTE he READS": up in 110 he reads till then for 220, or till 120 for 240 less COLD 20. */
    private static void readsOrIsUp() {
        LastAwake x = closet();
        x.sleeper(0, 30, 0, 20, 60);
        x.become(0, 5, 110);
        due("21: like ones: the least", x.reading(0), 110);
        x.become(0, 5, 109);
        due("21: rather read on", x.reading(0), 120);
        x.become(0, 5, 111);
        due("21: rather be up anyhow", x.reading(0), 111);
        x.become(0, 5, 109);
        x.cord(1);
        due("21: with a CORD there is no COLD", x.reading(0), 120);
        x.cord(0);
        x.become(0, 2, 9);
        due("21: he would hate 60 minutes of it", x.reading(0), 109);
    }

    // ---- WAITING

    /** "0, 10, .. 60 (0 .. 6); the first (10 the one and the other)." */
    private static void waitings() {
        LastAwake x = closet();
        x.sleeper(0, 20, 0, 8, 33);
        x.sleeper(0, 20, 0, 13, 33);
        x.become(1, 5, 71);
        // 1 is up at 71, for nothing: so both wait as long as may be.
        due("22: one pair", x.waiting(0, 1, 0), 1);
        due("22: the last one", x.waiting(0, 1, 1), 66);
        due("22: the other way", x.waiting(1, 0, 1), 66);
        x = closet();
        x.sleeper(0, 0, 0, 0, 33);
        x.sleeper(0, 0, 0, 0, 33);
        due("22: all of them", x.waiting(0, 1, 0), 49);
        due("22: the first one", x.waiting(0, 1, 1), 0);
        x.become(0, 3, 1);
        // He waits longer than the other (21 pairs), or can not, since the other waits 60 (7).
        due("22: he would rather not", x.waiting(0, 1, 0), 21 + 7);
        due("22: the first", x.waiting(0, 1, 1), 6);
        due("22: the first, the other way", x.waiting(1, 0, 1), 1);
        x.become(0, 5, 0);
        due("22: he is up anyhow", x.waiting(0, 1, 0), 49);
        due("8: PATIENCE stays", x.become(0, 4, 33), 33);
        x.sleeper(0, 0, 0, 0, 0);
        x.sleeper(0, 0, 0, 0, 0);
        due("22: the last two", x.waiting(3, 2, 0), 49);
    }

    // ---- TURNS

    /** "n nights (0 .. 6): the i-th"; -5, "not so many"; "nobody is there". */
    private static void turns() {
        LastAwake x = new LastAwake();
        for (int n = 0; n <= 6; n++) {
            due("23: nobody, how much of " + n, x.turns(n, -1), -1);
            due("23: nobody, the first of " + n, x.turns(n, 0), -1);
        }
        x = closet();
        x.sleeper(0, 60, 0, 20, 0);
        for (int n = 0; n <= 6; n++) {
            due("23: alone, how much of " + n, x.turns(n, -1), 20 * n);
            for (int i = 0; i < n; i++) {
                due("23: alone, the " + i + "-th", x.turns(n, i), 0);
            }
            due("23: not so many as " + n, x.turns(n, n), -5);
        }
        x.sleeper(0, 60, 0, 20, 0);
        x.sleeper(0, 60, 0, 20, 0);
        x.sleeper(0, 60, 0, 20, 0);
        int[] most = {0, 20, 20, 20, 20, 40, 40};
        for (int n = 0; n <= 6; n++) {
            due("23: four, how much of " + n, x.turns(n, -1), most[n]);
        }
        int[] row = {0, 0, 1, 1, 2, 2};
        for (int i = 0; i < 6; i++) {
            due("23: of like ones the first, " + i, x.turns(6, i), row[i]);
        }
        due("23: four of four", x.turns(4, 3), 3);
        due("23: four of five", x.turns(5, 4), 2);
    }

    /** "Always in MINUTE 60, not up ANYHOW (COSTS as told)." */
    private static void turnsInMinute60() {
        LastAwake x = closet();
        x.sleeper(0, 61, 9, 0, 0);
        due("23: READS 61", x.turns(1, -1), 3);
        x.become(0, 1, 60);
        due("23: READS 60", x.turns(1, -1), 0);
        x.become(0, 1, 59);
        due("23: READS 59", x.turns(1, -1), 9);
        x.become(0, 1, 0);
        due("23: READS 0, the most", x.turns(6, -1), 6 * 540);
        x.become(0, 1, 120);
        due("23: READS 120", x.turns(6, -1), 6 * 180);
        x.become(0, 3, 20);
        x.become(0, 5, 60);
        due("23: not up ANYHOW", x.turns(1, -1), 200);
        x.cord(1);
        due("23: with a CORD", x.turns(1, -1), 180);
    }

    // ---- odds

    /** "By p of 10 (0 .. 10), k throws (0 .. 9) at most"; THE FRACTION: "lowest terms, below above 0". */
    private static void shoes() {
        LastAwake x = new LastAwake();
        for (int p = 0; p <= 10; p++) {
            dueFraction("24: no throw hits", x, x.shoe(p, 0, 0), 0, 1);
            dueFraction("24: no throw", x, x.shoe(p, 0, 1), 0, 1);
            dueFraction("24: one throw", x, x.shoe(p, 1, 1), 1, 1);
        }
        for (int k = 1; k <= 9; k++) {
            dueFraction("24: never", x, x.shoe(0, k, 0), 0, 1);
            dueFraction("24: never, all throws", x, x.shoe(0, k, 1), k, 1);
            dueFraction("24: always", x, x.shoe(10, k, 0), 1, 1);
            dueFraction("24: always, one throw", x, x.shoe(10, k, 1), 1, 1);
        }
        dueFraction("24: by 9 of 10, 9 throws", x, x.shoe(9, 9, 0), 999999999, 1000000000);
        dueFraction("24: by 9 of 10, how many", x, x.shoe(9, 9, 1), 111111111, 100000000);
        dueFraction("24: lowest terms", x, x.shoe(5, 2, 0), 3, 4);
        dueFraction("24: lowest terms", x, x.shoe(4, 1, 0), 2, 5);
    }

    /** "The light is on; behind m MINUTES (0 .. 8)"; "a clap turns it about, then a cough does". */
    private static void claps() {
        LastAwake x = new LastAwake();
        for (int m = 0; m <= 8; m++) {
            dueFraction("25: neither", x, x.clap(0, 0, m), 1, 1);
            dueFraction("25: both", x, x.clap(10, 10, m), 1, 1);
            dueFraction("25: a clap each", x, x.clap(10, 0, m), m % 2 == 0 ? 1 : 0, 1);
            dueFraction("25: a cough each", x, x.clap(0, 10, m), m % 2 == 0 ? 1 : 0, 1);
        }
        dueFraction("25: no MINUTE", x, x.clap(3, 4, 0), 1, 1);
        dueFraction("25: one MINUTE", x, x.clap(3, 4, 1), 27, 50);
        // One half, and one half of 16 by 25 to the 8th: 25 to the 8th and 16 to the 8th, by twice 25 to the 8th.
        dueFraction("25: by 1 and by 1, 8 MINUTES", x, x.clap(1, 1, 8), 152587890625L + 4294967296L, 2 * 152587890625L);
    }

    /** "Sleeps in a (0 .. 10); n breaths (0 .. 6), the first lowest; NO: it can not be." */
    private static void breaths() {
        LastAwake x = new LastAwake();
        int[] above = {0, 1, 1, 3, 2, 1, 3, 7, 4, 9, 1};
        int[] below = {1, 10, 5, 10, 5, 2, 5, 10, 5, 10, 1};
        for (int a = 0; a <= 10; a++) {
            dueFraction("26: no breath", x, x.asleep(a, 3, 7, 0, 0), above[a], below[a]);
            dueFraction("26: breaths that tell nothing", x, x.asleep(a, 4, 4, 21, 6), above[a], below[a]);
        }
        dueFraction("26: six even ones", x, x.asleep(5, 2, 1, 63, 6), 64, 65);
        dueFraction("26: none even of six", x, x.asleep(5, 9, 8, 0, 6), 1, 65);
        // 5 to the 6th, against 1 and 9 to the 5th.
        dueFraction("26: one even of six", x, x.asleep(5, 5, 1, 32, 6), 15625, 15625 + 59049);
        dueFraction("26: it must be", x, x.asleep(1, 1, 0, 1, 1), 1, 1);
        dueFraction("26: it must not be", x, x.asleep(9, 0, 1, 1, 1), 0, 1);
        due("26: it can not be", x.asleep(9, 0, 0, 1, 1), -3);
        due("26: THE FRACTION stays", x.part(0), 0);
    }

    // ---- JACK

    /** "NOTES 0 .. 7, as they come; bits; 0: nobody." */
    private static void notes() {
        LastAwake x = new LastAwake();
        for (int n = 1; n <= 4; n++) {
            x.sleeper(0, 0, 0, 0, 0);
            due("27: all who are there", x.note(n - 1, (1 << n) - 1), n - 1);
            due("27: one who is not", x.note(n - 1, 1 << n), -2);
            due("27: who is not there says nothing", x.note(n, 0), -2);
        }
        for (int i = 4; i < 8; i++) {
            due("27: the " + i + "-th", x.note(3, 0), i);
        }
        due("27: a 9th", x.note(3, 0), -4);
        due("35: NOTES", x.count(7), 8);
        due("28: burn()", x.burn(), 8);
        due("35: NOTES", x.count(7), 0);
        due("28: burn() of none", x.burn(), 0);
        due("27: from 0 on again", x.note(0, 15), 0);
    }

    /** "If just l of them lie (in all their NOTES; who does not lie is right in each; who wrote none lies not)." */
    private static void whoMovedIt() {
        LastAwake x = new LastAwake();
        for (int i = 0; i < 4; i++) {
            x.sleeper(0, 0, 0, 0, 0);
        }
        due("29: nobody wrote, no liar", x.who(0), 15);
        for (int l = 1; l <= 4; l++) {
            due("29: nobody wrote, liars " + l, x.who(l), 0);
        }
        x.note(0, 15);
        due("29: he is right of each", x.who(0), 15);
        due("29: he can not lie", x.who(1), 0);
        x.burn();
        x.note(3, 0);
        due("29: nobody did: he can not be right", x.who(0), 0);
        due("29: he lies of each", x.who(1), 15);
        x.note(3, 8);
        due("29: in all of them, or in none", x.who(1), 7);
        due("29: in all of them, or in none", x.who(0), 0);
        x.burn();
        for (int i = 0; i < 4; i++) {
            x.note(i, 1);
            x.note(i, 1);
        }
        due("29: all eight are right", x.who(0), 1);
        due("29: just one lies", x.who(1), 0);
        due("29: just three lie", x.who(3), 0);
        due("29: all four lie", x.who(4), 14);
        x.burn();
        x.note(0, 1);
        x.note(0, 2);
        due("29: right of one, wrong of the other", x.who(0), 0);
        due("29: wrong in both", x.who(1), 12);
    }

    // ---- DRAWN

    /** "A SEED (0 .. 999999), n nights (0 .. 60); above 120: never; COUNTS go on from now." */
    private static void seeds() {
        LastAwake x = closet();
        x.sleeper(0, 120, 0, 0, 60);
        x.sleeper(0, 120, 0, 0, 1);
        // The second is never up by these seeds, and has waited in 121.
        due("30: up in 120", x.drawn(479, 1, 0), 1);
        due("30: 121 is never", x.drawn(3032, 1, 0), 0);
        due("30: 121 is never: the other", x.drawn(3032, 1, 1), 1);
        due("30: 179 is never", x.drawn(4762, 1, 0), 0);
        due("30: up while he READS", x.drawn(342, 1, 0), 0);
        x.become(0, 1, 0);
        x.become(1, 1, 0);
        x.become(1, 4, 0);
        due("30: up in 0", x.drawn(342, 1, 0), 1);
        due("30: SEED 0 is 12345 next, and up in 0", x.drawn(0, 1, 0), 1);
        due("30: not up in 0", x.drawn(479, 1, 0), 0);
        due("30: no night", x.drawn(342, 0, 0), 0);
        for (int seed : new int[] {0, 1, 999999}) {
            due("30: one or the other in each of 60", x.drawn(seed, 60, 0) + x.drawn(seed, 60, 1), 60);
        }
        x = closet();
        x.sleeper(1, 0, 0, 0, 0);
        x.sleeper(0, 1, 0, 0, 0);
        x.become(0, 5, 0);
        x.pass(4);
        // By 20 minutes' wait the first comes behind, if neither is up in 0 or 1.
        due("14: COUNT", x.about(0, 0), 4);
        due("30: COUNTS go on from now", x.drawn(479, 1, 1), 1);
        due("30: UP is as drawn, not as told", x.drawn(479, 1, 0), 0);
        due("8: UP stays", x.become(0, 5, 0), 0);
    }

    // ---- IMAGES, STATUS, digest

    /** "IMAGES 0, 1 keep all but them, THE TEXT, THE FRACTION and STATUS; what may be undone they keep." */
    private static void images() {
        LastAwake x = new LastAwake();
        due("32: of a new one", x.image(0), 1);
        x.room(7, 7);
        x.place(0, 48);
        for (int c = 0; c < 49; c++) {
            x.things(c, 9);
        }
        x.sleeper(0, 0, 0, 0, 0);
        x.note(0, 1);
        x.pass(9);
        x.image(1);
        long full = x.digest();
        due("33: from 0", x.from(0), 1);
        due("33: as at first", x.digest(), new LastAwake().digest());
        due("33: nothing to undo", x.undo(), -3);
        due("33: no note", x.burn(), 0);
        x.room(7, 7);
        due("33: THINGS left behind are none", x.things(48, 0), 0);
        due("33: from 1", x.from(1), 1);
        due("33: all is back", x.digest(), full);
        for (int i = 0; i < 8; i++) {
            due("33: what may be undone", x.undo(), 1);
        }
        due("33: no more", x.undo(), -3);
        due("33: from 1 again", x.from(1), 1);
        due("33: what may be undone", x.count(9), 8);
        due("32: over another", x.image(0), 1);
        x.room(1, 1);
        due("33: from 0, the later one", x.from(0), 1);
        due("33: it is like 1", x.digest(), full);
        due("34: NO", x.status(1), 2);
    }

    /** "-1: another what (counts as BAD)"; each count is its own. */
    private static void statuses() {
        LastAwake x = new LastAwake();
        due("34: another what", x.status(3), -1);
        due("34: it counts", x.status(0), 1);
        due("34: another what", x.status(-1), -1);
        due("34: it counts", x.status(0), 2);
        due("34: not as NO", x.status(1), 0);
        due("34: not as FULL", x.status(2), 0);
        x.undo();
        due("34: NO", x.status(1), 1);
        for (int i = 0; i < 5; i++) {
            x.sleeper(0, 0, 0, 0, 0);
        }
        due("34: FULL", x.status(2), 1);
        due("34: BAD as before", x.status(0), 2);
        x.room(1, 1);
        due("34: BAD stays", x.status(0), 2);
        due("34: NO stays", x.status(1), 1);
        due("34: FULL stays", x.status(2), 1);
        for (int i = 0; i < 450; i++) {
            x.undo();
        }
        due("34: as often as it was", x.status(1), 451);
    }

    /** "THINGS of CELLS; of SLEEPERS ..; of NOTES .." : of those there are, none of others; by Java's wrap-around. */
    private static void digests() {
        long[] nothing = new long[11 + 1 + 2];
        nothing[0] = 1;
        nothing[1] = 1;
        nothing[13] = 1;
        due("36: one CELL, nobody", closet().digest(), mixed(nothing));
        LastAwake x = roomOf(7, 7);
        long[] all = new long[11 + 49 + 32 + 16 + 2];
        long[] counts = {7, 7, 0, 48, 127, 1, 4, 8, 0, 0, 150};
        System.arraycopy(counts, 0, all, 0, 11);
        x.moon(127);
        x.cord(1);
        for (int c = 0; c < 49; c++) {
            x.things(c, 9);
        }
        Arrays.fill(all, 11, 60, 9);
        for (int s = 0; s < 4; s++) {
            x.sleeper(5, 120, 9, 20, 60);
            x.become(s, 5, s == 3 ? -1 : 120);
            long[] traits = {5, 120, 9, 20, 60, s == 3 ? -1 : 120, 0, 0};
            System.arraycopy(traits, 0, all, 60 + 8 * s, 8);
        }
        for (int i = 0; i < 8; i++) {
            x.note(i % 4, 15);
            all[92 + 2 * i] = i % 4;
            all[93 + 2 * i] = 15;
        }
        for (int i = 0; i < 150; i++) {
            x.type(127);
        }
        x.clap(9, 1, 8);
        all[108] = 156882857921L;
        all[109] = 305175781250L;
        due("36: all is full", x.digest(), mixed(all));
        x.burn();
        x.clear();
        x.room(1, 1);
        x.shoe(0, 0, 0);
        due("36: nothing is left of it", x.digest(), mixed(nothing));
    }

    private static long mixed(long[] all) {
        java.math.BigInteger h = java.math.BigInteger.valueOf(857);
        for (long v : all) {
            h = h.multiply(java.math.BigInteger.valueOf(31)).add(java.math.BigInteger.valueOf(v));
        }
        return h.longValue();
    }

    public static void main(String[] args) {
        asAtFirst();
        sizes();
        roomLeavesNothing();
        rowsDoNotWrap();
        ways();
        windingWays();
        sleepers();
        whoComesIsNew();
        waits();
        countsAheadOfTheNight();
        upAnyhow();
        inOrder();
        burnsOut();
        costs();
        errands();
        errandsFollowTheFloor();
        passes();
        manyNights();
        undoing();
        undoingAgain();
        undoingWithNewOnes();
        whoCameSinceKeeps();
        felt();
        beds();
        foretold();
        cords();
        reads();
        readsOrIsUp();
        waitings();
        turns();
        turnsInMinute60();
        shoes();
        claps();
        breaths();
        notes();
        whoMovedIt();
        seeds();
        images();
        statuses();
        digests();
        System.out.println(wrong == 0 ? "all " + looks + " answers are as due" : wrong + " are not as due");
        if (wrong != 0) {
            System.exit(1);
        }
    }
}
