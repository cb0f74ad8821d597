/** Each promise of the document by itself: ordinary inputs, the edges that it names, and wrong inputs. */
public final class PromisesTest {
    private static int wrong = 0;

    private static void due(String call, long got, long want) {
        if (got != want) {
            wrong++;
            System.out.println(call + " answered " + got + ", due is " + want);
        }
    }

    private static void typeAll(LastAwake x, String text) {
        x.clear();
        for (int i = 0; i < text.length(); i++) {
            x.type(text.charAt(i));
        }
    }

    private static int readAll(LastAwake x, String text) {
        typeAll(x, text);
        return x.read();
    }

    private static void dueCounts(String when, LastAwake x, int... want) {
        for (int what = 0; what < want.length; what++) {
            due(when + " count(" + what + ")", x.count(what), want[what]);
        }
    }

    private static void dueFraction(String when, LastAwake x, long above, long below) {
        due(when + " part(0)", x.part(0), above);
        due(when + " part(1)", x.part(1), below);
    }

    private static void dueStatus(String when, LastAwake x, int bad, int no, int full) {
        due(when + " status(0)", x.status(0), bad);
        due(when + " status(1)", x.status(1), no);
        due(when + " status(2)", x.status(2), full);
    }

    /** Two of them: 0 puts it out at 20 (waited), 1 has it off 20 minutes after he hates it. */
    private static LastAwake pair() {
        LastAwake x = new LastAwake();
        x.sleeper(0, 10, 1, 7, 10);
        x.sleeper(0, 0, 2, 3, 30);
        return x;
    }

    public static void main(String[] args) {
        newObject();
        room();
        roomKeeps();
        place();
        things();
        moon();
        cord();
        sleeper();
        become();
        typeAndClear();
        readGood();
        readFaults();
        readReplaces();
        readFullTexts();
        pass();
        undo();
        about();
        waits();
        way();
        bed();
        tonight();
        cost();
        foretold();
        worth();
        reading();
        waiting();
        turns();
        shoe();
        clap();
        asleep();
        notes();
        who();
        drawn();
        images();
        status();
        count();
        digest();
        System.out.println(wrong == 0 ? "all answers are as due" : wrong + " answers are not as due");
        if (wrong != 0) {
            System.exit(1);
        }
    }

    private static void newObject() {
        LastAwake x = new LastAwake();
        dueCounts("1: new", x, 6, 4, 0, 23, 0, 0, 0, 0, 0, 0, 0);
        dueFraction("1: new", x, 0, 1);
        dueStatus("1: new", x, 0, 0, 0);
        due("1: from(0)", x.from(0), LastAwake.NO);
        due("1: NONE", LastAwake.NONE, -1);
        due("1: BAD", LastAwake.BAD, -2);
        due("1: NO", LastAwake.NO, -3);
        due("1: FULL", LastAwake.FULL, -4);
    }

    private static void room() {
        LastAwake x = new LastAwake();
        due("2: room(7, 1)", x.room(7, 1), 1);
        dueCounts("2: room(7, 1)", x, 7, 1, 0, 6);
        due("2: room(1, 7)", x.room(1, 7), 1);
        dueCounts("2: room(1, 7)", x, 1, 7, 0, 6);
        due("2: room(7, 7)", x.room(7, 7), 1);
        dueCounts("2: room(7, 7)", x, 7, 7, 0, 48);
        due("2: room(0, 3)", x.room(0, 3), -2);
        due("2: room(3, 0)", x.room(3, 0), -2);
        due("2: room(8, 3)", x.room(8, 3), -2);
        due("2: room(3, 8)", x.room(3, 8), -2);
        due("2: room(MIN, MAX)", x.room(Integer.MIN_VALUE, Integer.MAX_VALUE), -2);
        dueCounts("2: refused", x, 7, 7, 0, 48);
        dueStatus("2: refused", x, 5, 0, 0);
    }

    private static void roomKeeps() {
        LastAwake x = pair();
        x.place(0, 5);
        x.place(1, 6);
        x.things(3, 4);
        x.moon(127);
        x.cord(1);
        x.become(1, 5, 50);
        x.note(0, 1);
        x.pass(9);
        x.image(1);
        x.shoe(5, 1, 0);
        x.type(65);
        x.undo();
        x.cord(2);
        due("2: room(3, 2)", x.room(3, 2), 1);
        dueCounts("2: all as at first", x, 3, 2, 0, 5, 0, 0, 0, 0, 0, 0, 1);
        due("2: things as at first", x.things(3, 0), 0);
        due("2: nothing to undo", x.undo(), -3);
        dueFraction("2: the fraction stays", x, 1, 2);
        dueStatus("2: status stays", x, 1, 1, 0);
        due("2: images stay", x.from(1), 1);
        dueCounts("2: images stay", x, 6, 4, 5, 6, 127, 1, 2, 1, 9, 8, 1);
        x.room(2, 2);
        x.sleeper(0, 0, 0, 0, 0);
        due("2: who comes is new: COUNT", x.about(0, 0), 0);
        due("2: who comes is new: PAID", x.about(0, 1), 0);
        due("2: who comes is never up", x.become(0, 5, 1), -1);
    }

    private static void place() {
        LastAwake x = new LastAwake();
        due("3: place(0, 23)", x.place(0, 23), 0);
        due("3: place(0, 4)", x.place(0, 4), 23);
        due("3: place(1, 0)", x.place(1, 0), 23);
        due("3: place(1, 4)", x.place(1, 4), 0);
        due("3: place(2, 0)", x.place(2, 0), -2);
        due("3: place(-1, 0)", x.place(-1, 0), -2);
        due("3: place(0, 24)", x.place(0, 24), -2);
        due("3: place(1, -1)", x.place(1, -1), -2);
        dueCounts("3: place", x, 6, 4, 4, 4);
        x.room(2, 3);
        due("3: place(0, 6) of 6", x.place(0, 6), -2);
        due("3: place(0, 5) of 6", x.place(0, 5), 0);
    }

    private static void things() {
        LastAwake x = new LastAwake();
        due("4: things(0, 9)", x.things(0, 9), 0);
        due("4: things(0, 1)", x.things(0, 1), 9);
        due("4: things(0, 0)", x.things(0, 0), 1);
        due("4: things(23, 5)", x.things(23, 5), 0);
        due("4: things(24, 5)", x.things(24, 5), -2);
        due("4: things(-1, 5)", x.things(-1, 5), -2);
        due("4: things(23, 10)", x.things(23, 10), -2);
        due("4: things(23, -1)", x.things(23, -1), -2);
        due("4: refused ones changed nothing", x.things(23, 5), 5);
    }

    private static void moon() {
        LastAwake x = new LastAwake();
        due("5: moon(127)", x.moon(127), 0);
        due("5: moon(1)", x.moon(1), 127);
        due("5: moon(128)", x.moon(128), -2);
        due("5: moon(-1)", x.moon(-1), -2);
        due("5: moon(0)", x.moon(0), 1);
    }

    private static void cord() {
        LastAwake x = new LastAwake();
        due("6: cord(1)", x.cord(1), 0);
        due("6: cord(1)", x.cord(1), 1);
        due("6: cord(2)", x.cord(2), -2);
        due("6: cord(-1)", x.cord(-1), -2);
        due("6: cord(0)", x.cord(0), 1);
    }

    private static void sleeper() {
        LastAwake x = new LastAwake();
        due("7: kind 6", x.sleeper(6, 0, 0, 0, 0), -2);
        due("7: kind -1", x.sleeper(-1, 0, 0, 0, 0), -2);
        due("7: reads 121", x.sleeper(0, 121, 0, 0, 0), -2);
        due("7: reads -1", x.sleeper(0, -1, 0, 0, 0), -2);
        due("7: hates 10", x.sleeper(0, 0, 10, 0, 0), -2);
        due("7: hates -1", x.sleeper(0, 0, -1, 0, 0), -2);
        due("7: cold 21", x.sleeper(0, 0, 0, 21, 0), -2);
        due("7: cold -1", x.sleeper(0, 0, 0, -1, 0), -2);
        due("7: patience 61", x.sleeper(0, 0, 0, 0, 61), -2);
        due("7: patience -1", x.sleeper(0, 0, 0, 0, -1), -2);
        due("7: first", x.sleeper(5, 120, 9, 20, 60), 0);
        due("7: second", x.sleeper(0, 0, 0, 0, 0), 1);
        due("7: third", x.sleeper(1, 2, 3, 4, 5), 2);
        due("7: fourth", x.sleeper(1, 2, 3, 4, 5), 3);
        due("7: BAD ahead of FULL", x.sleeper(6, 2, 3, 4, 5), -2);
        due("7: FULL", x.sleeper(1, 2, 3, 4, 5), -4);
        dueStatus("7: sleeper", x, 11, 0, 1);
        int[] first = {5, 120, 9, 20, 60, -1};
        for (int what = 0; what < 6; what++) {
            due("7: as told " + what, x.become(0, what, 0), first[what]);
        }
    }

    private static void become() {
        LastAwake x = new LastAwake();
        due("8: nobody", x.become(0, 0, 0), -10);
        x.sleeper(1, 2, 3, 4, 5);
        int[] most = {5, 120, 9, 20, 60, 120};
        for (int what = 0; what < 6; what++) {
            int was = what == 5 ? -1 : what + 1;
            due("8: above " + what, x.become(0, what, most[what] + 1), -10);
            due("8: below " + what, x.become(0, what, what == 5 ? -2 : -1), -10);
            due("8: most " + what, x.become(0, what, most[what]), was);
            due("8: least " + what, x.become(0, what, 0), most[what]);
        }
        due("8: never up", x.become(0, 5, -1), 0);
        due("8: never up again", x.become(0, 5, -1), -1);
        due("8: what 6", x.become(0, 6, 0), -10);
        due("8: what -1", x.become(0, -1, 0), -10);
        due("8: sleeper 1", x.become(1, 0, 0), -10);
        due("8: sleeper -1", x.become(-1, 0, 0), -10);
        dueStatus("8: become", x, 17, 0, 0);
    }

    private static void typeAndClear() {
        LastAwake x = new LastAwake();
        due("10: clear() of none", x.clear(), 0);
        due("9: type(-1)", x.type(-1), -2);
        due("9: type(128)", x.type(128), -2);
        for (int i = 1; i <= 150; i++) {
            due("9: type " + i, x.type(i % 128), i);
        }
        due("9: type FULL", x.type(65), -4);
        due("9: BAD ahead of FULL", x.type(128), -2);
        due("9: count(10)", x.count(10), 150);
        dueStatus("9: type", x, 3, 0, 1);
        due("10: clear()", x.clear(), 150);
        due("10: clear() again", x.clear(), 0);
        due("9: type(0)", x.type(0), 1);
        due("9: type(127)", x.type(127), 2);
    }

    private static void readGood() {
        LastAwake x = new LastAwake();
        due("11: read", readAll(x, "room 3 2;switch 5;bed 1;thing 4 9;moon 0;moon 2;cord;sleeper 4 120 9 20 60;up 0 120;"), 9);
        dueCounts("11: read", x, 3, 2, 5, 1, 5, 1, 1, 0, 0, 0);
        due("11: thing", x.things(4, 0), 9);
        int[] told = {4, 120, 9, 20, 60, 120};
        for (int what = 0; what < 6; what++) {
            due("11: sleeper " + what, x.become(0, what, 0), told[what]);
        }
        due("11: the text stays", x.read(), 9);
        due("11: blanks", readAll(x, "   room   1   1  ;   cord ;  "), 2);
        due("11: no blanks where none are needed", readAll(x, "room2 3;switch5;bed0;thing 0 1;cord;"), 5);
        dueCounts("11: no blanks", x, 2, 3, 5, 0, 0, 1);
        due("11: three figures", readAll(x, "room 007 001;thing 000 009;"), 2);
        due("11: things again", readAll(x, "room 2 2;thing 1 3;thing 1 4;switch 1;switch 2;"), 5);
        due("11: the last one stands", x.things(1, 0), 4);
        due("11: the last one stands", x.count(2), 2);
        due("11: four", readAll(x, "room 1 1;sleeper 0 0 0 0 0;sleeper 1 1 1 1 1;sleeper 2 2 2 2 2;sleeper 3 3 3 3 3;up 3 0;"), 6);
        due("11: never up if not told", x.become(2, 5, 0), -1);
        due("11: up", x.become(3, 5, 0), 0);
        dueStatus("11: read", x, 0, 0, 0);
    }

    private static void dueFault(String text, int fault) {
        LastAwake x = pair();
        x.pass(3);
        typeAll(x, text);
        long before = x.digest();
        due("11: read \"" + text + "\"", x.read(), -10 - fault);
        due("11: all stays behind \"" + text + "\"", x.digest(), before);
        dueStatus("11: a fault is none of them: \"" + text + "\"", x, 0, 0, 0);
    }

    private static void readFaults() {
        dueFault("", 0);
        dueFault("   ", 3);
        dueFault("room", 4);
        dueFault("room 2 ", 7);
        dueFault("room 2 2", 8);
        dueFault("room 2 2;bed", 12);
        dueFault("room 2 2;bed 1", 14);
        dueFault("room 2 2;cord", 13);
        dueFault("room 2 2;cor", 9);
        dueFault("rooms 2 2;", 0);
        dueFault(" roo 2 2;", 1);
        dueFault("Room 2 2;", 0);
        dueFault("room 2 2;bred 1;", 9);
        dueFault("room 2 2;ceda 1;", 9);
        dueFault("room 2 2;zed 1;", 9);
        dueFault("room 2 2;bed`1;", 12);
        dueFault("room 2 2;bed{1;", 12);
        dueFault("room 2 2;bed 1/", 14);
        dueFault("room 2 2;bed 1:", 14);
        dueFault(";room 2 2;", 0);
        dueFault("2 room 2 2;", 0);
        dueFault("cord;room 2 2;", 0);
        dueFault("room 2 2;room 2 2;", 9);
        dueFault("room 2 2;;", 9);
        dueFault("room 2 2 2;", 9);
        dueFault("room 2;", 6);
        dueFault("room 2 cord;", 7);
        dueFault("room 0 2;", 5);
        dueFault("room 2 8;", 7);
        dueFault("room 2-2;", 6);
        dueFault("room 2 2;cord 1;", 14);
        dueFault("room 2 2;switch 4;", 16);
        dueFault("room 2 2;bed 4;", 13);
        dueFault("room 2 2;thing 4 0;", 15);
        dueFault("room 2 2;thing 3 10;", 17);
        dueFault("room 2 2;thing 0001 1;", 15);
        dueFault("room 2 2;thing 0014;", 15);
        dueFault("room 2 2;moon 2;", 14);
        dueFault("room 2 2;sleeper 6 0 0 0 0;", 17);
        dueFault("room 2 2;sleeper 0 121 0 0 0;", 19);
        dueFault("room 2 2;sleeper 0 0 10 0 0;", 21);
        dueFault("room 2 2;sleeper 0 0 0 21 0;", 23);
        dueFault("room 2 2;sleeper 0 0 0 0 61;", 25);
        dueFault("room 2 2;sleeper 0 0 0 0 0 0;", 27);
        dueFault("room 2 2;up 0 0;", 12);
        dueFault("room 2 2;up 0 0;sleeper 0 0 0 0 0;", 12);
        dueFault("room 2 2;sleeper 0 0 0 0 0;up 1 0;", 30);
        dueFault("room 2 2;sleeper 0 0 0 0 0;up 0 121;", 32);
        dueFault("room 2 2;\nbed 0;", 9);
        dueFault("room 2 2; bed 0; \t", 17);
        String four = "room 2 2;sleeper 0 0 0 0 0;sleeper 0 0 0 0 0;sleeper 0 0 0 0 0;sleeper 0 0 0 0 0;";
        dueFault(four + "sleeper 9", 81);
        dueFault(four + "cord;sleeper", 86);
    }

    /** Texts of 150 bytes: the last token ends with the last byte. */
    private static void readFullTexts() {
        String blanks = " ".repeat(141);
        LastAwake x = new LastAwake();
        due("11: 150 bytes", readAll(x, blanks + "room 3 1;"), 1);
        due("11: 150 bytes", x.count(10), 150);
        due("11: 150 bytes", readAll(x, "room 3 1;" + blanks), 1);
        dueFault("room 3 1;" + blanks.substring(4) + "cord", 150);
        dueFault("room 3 1;" + blanks.substring(5) + "bed 1", 150);
        dueFault("room 3 1;" + blanks.substring(3) + "abz", 147);
        due("11: the room alone", readAll(x, "room 4 4;"), 1);
        due("11: many items", readAll(x, "room 1 1;" + "cord;".repeat(28)), 29);
    }

    private static void readReplaces() {
        LastAwake x = pair();
        x.note(0, 1);
        x.pass(9);
        x.things(0, 3);
        x.moon(5);
        x.cord(1);
        x.shoe(5, 1, 0);
        x.image(0);
        x.cord(7);
        due("11: read", readAll(x, "room 6 4;sleeper 0 0 0 0 0;"), 2);
        dueCounts("11: takes the place of all", x, 6, 4, 0, 23, 0, 0, 1, 0, 0, 0, 27);
        due("11: COUNT", x.about(0, 0), 0);
        due("11: PAID", x.about(0, 1), 0);
        due("11: THINGS", x.things(0, 0), 0);
        due("11: nothing to undo", x.undo(), -3);
        dueFraction("11: the fraction stays", x, 1, 2);
        dueStatus("11: status stays", x, 1, 1, 0);
        due("11: images stay", x.from(0), 1);
        dueCounts("11: images stay", x, 6, 4, 0, 23, 5, 1, 2, 1, 9, 8, 27);
    }

    private static void pass() {
        LastAwake x = new LastAwake();
        due("12: pass(0)", x.pass(0), -2);
        due("12: pass(31)", x.pass(31), -2);
        due("12: pass(-1)", x.pass(-1), -2);
        due("12: nobody", x.pass(30), 0);
        due("12: nights", x.count(8), 30);
        x = pair();
        due("12: pass(3)", x.pass(3), 3);
        // The way is 16: 20 minutes, 10 of them hated, cold 7, and 32 for the walk.
        due("12: PAID of 0", x.about(0, 1), 3 * (10 + 7 + 32));
        due("12: PAID of 1", x.about(1, 1), 3 * 40);
        due("12: COUNT of 0", x.about(0, 0), 3);
        due("12: COUNT of 1", x.about(1, 0), 0);
        due("12: nights", x.count(8), 3);
        x = new LastAwake();
        x.sleeper(4, 120, 1, 0, 60);
        x.sleeper(4, 120, 1, 0, 60);
        // Both wait 140: the first one till 260; then he waits 150, 160, .. as his count is ahead.
        due("12: fair turns", x.pass(4), 4);
        due("12: COUNT of 0", x.about(0, 0), 2);
        due("12: COUNT of 1", x.about(1, 0), 2);
    }

    private static void undo() {
        LastAwake x = pair();
        due("13: none", x.undo(), -3);
        x.pass(30);
        due("13: 8 at most", x.count(9), 8);
        for (int i = 1; i <= 8; i++) {
            due("13: undo " + i, x.undo(), 1);
            due("13: nights", x.count(8), 30 - i);
            due("13: COUNT", x.about(0, 0), 30 - i);
            due("13: PAID", x.about(1, 1), 40 * (30 - i));
        }
        due("13: no more", x.undo(), -3);
        dueStatus("13: undo", x, 0, 2, 0);
        x.pass(1);
        due("13: one again", x.count(9), 1);
        due("13: the newest", x.undo(), 1);
        due("13: COUNT", x.about(0, 0), 22);
        x = new LastAwake();
        x.sleeper(0, 0, 0, 1, 0);
        x.pass(1);
        x.sleeper(0, 10, 0, 0, 0);
        x.pass(1);
        due("13: who came paid", x.about(1, 1), 30);
        x.pass(1);
        due("13: who came paid", x.about(1, 1), 60);
        x.undo();
        due("13: undone for him, too", x.about(1, 1), 30);
        x.sleeper(0, 20, 0, 0, 0);
        x.become(0, 3, 9);
        x.undo();
        due("13: undone for him, too", x.about(1, 1), 0);
        x.undo();
        due("13: who came since stays", x.about(1, 1), 0);
        due("13: COUNT", x.about(0, 0), 0);
        due("13: only nights are undone", x.become(0, 3, 1), 9);
        due("13: only nights are undone", x.count(6), 3);
        x = new LastAwake();
        x.sleeper(0, 0, 0, 1, 0);
        x.pass(2);
        x.sleeper(0, 10, 0, 0, 0);
        x.pass(8);
        for (int i = 0; i < 8; i++) {
            x.undo();
        }
        due("13: the older ones are gone", x.undo(), -3);
        due("13: as ahead of the third night", x.about(0, 0), 2);
        undoOfFour();
    }

    /** Each gets up in his own night, so that no two counts and costs are alike. */
    private static void undoOfFour() {
        LastAwake x = new LastAwake();
        for (int i = 0; i < 4; i++) {
            x.sleeper(0, 10 * i, 1, i, 60);
        }
        long[] ahead = new long[9];
        for (int night = 0; night < 8; night++) {
            int up = night % 4;
            ahead[night] = x.digest();
            x.become(up, 5, 40);
            x.pass(1);
            due("13: his turn", x.about(up, 0), night / 4 + 1);
            x.become(up, 5, -1);
        }
        x.image(0);
        x.pass(1);
        x.room(1, 1);
        x.from(0);
        for (int night = 7; night >= 0; night--) {
            due("13: undo", x.undo(), 1);
            due("13: as ahead of night " + night, x.digest(), ahead[night]);
        }
    }

    private static void about() {
        LastAwake x = new LastAwake();
        due("14: nobody", x.about(0, 0), -100000);
        x.sleeper(0, 0, 1, 0, 0);
        x.sleeper(0, 5, 0, 0, 0);
        x.sleeper(0, 5, 0, 0, 0);
        x.pass(3);
        due("14: COUNT", x.about(0, 0), 3);
        due("14: PAID", x.about(0, 1), 3 * 32);
        due("14: PAID of another", x.about(1, 1), 3 * 15);
        due("14: FELT", x.about(0, 3), 6);
        due("14: FELT below 0", x.about(1, 3), -3);
        due("14: what 4", x.about(0, 4), -100000);
        due("14: what -1", x.about(0, -1), -100000);
        due("14: sleeper 3", x.about(3, 0), -100000);
        due("14: sleeper -1", x.about(-1, 0), -100000);
        dueStatus("14: about", x, 5, 0, 0);
    }

    private static void waits() {
        LastAwake x = new LastAwake();
        x.sleeper(0, 0, 0, 0, 0);
        x.sleeper(0, 1, 0, 0, 0);
        // The first one puts it out 4 times; then, as each kind, he waits by 4 more than the least count.
        x.pass(4);
        x.become(0, 4, 31);
        x.become(0, 1, 7);
        int[] want = {31, 51, 102, 15, 122, 16};
        for (int kind = 0; kind < 6; kind++) {
            x.become(0, 0, kind);
            due("14: WAITS of kind " + kind, x.about(0, 2), want[kind]);
        }
        x.become(1, 0, 4);
        due("14: WAITS of him with the least count", x.about(1, 2), 20);
    }

    private static void way() {
        LastAwake x = new LastAwake();
        due("15: way(23, 0)", x.way(23, 0), 16);
        due("15: way(5, 5)", x.way(5, 5), 0);
        due("15: way(24, 0)", x.way(24, 0), -2);
        due("15: way(0, 24)", x.way(0, 24), -2);
        due("15: way(-1, 0)", x.way(-1, 0), -2);
        due("15: way(0, -1)", x.way(0, -1), -2);
        x.room(3, 1);
        x.things(0, 1);
        x.things(1, 5);
        x.things(2, 9);
        due("15: to the right", x.way(0, 2), 2 + 5 + 2 + 9);
        due("15: to the left", x.way(2, 0), 2 + 5 + 2 + 1);
        due("15: one cell with things", x.way(2, 2), 0);
        x.moon(2);
        due("15: by the moon", x.way(0, 2), 2 + 2 + 9);
        x.moon(7);
        due("15: by all the moon", x.way(0, 2), 4);
        x.room(3, 3);
        x.things(1, 9);
        x.things(4, 8);
        due("15: around", x.way(0, 2), 12);
        x.things(7, 1);
        due("15: around over one", x.way(0, 2), 13);
        x.things(4, 1);
        due("15: through", x.way(0, 2), 9);
    }

    private static void bed() {
        LastAwake x = new LastAwake();
        due("16: bed()", x.bed(), 1);
        x.things(1, 1);
        due("16: beside, below", x.bed(), 6);
        x.moon(127);
        due("16: things by the moon are things", x.bed(), 6);
        x.room(1, 1);
        due("16: none", x.bed(), -1);
        x.room(2, 1);
        x.things(1, 1);
        due("16: none without things", x.bed(), -1);
        x.place(0, 1);
        due("16: the switch may have things", x.bed(), 0);
        x.room(3, 3);
        x.place(0, 4);
        due("16: of like ones the first", x.bed(), 1);
        dueStatus("16: bed", x, 0, 0, 0);
    }

    private static void dueTonight(String when, LastAwake x, int minute, int by, int anyhow) {
        due("17: " + when + ": minute", x.tonight(0), minute);
        due("17: " + when + ": who", x.tonight(1), by);
        due("17: " + when + ": anyhow", x.tonight(2), anyhow);
    }

    private static void tonight() {
        LastAwake x = new LastAwake();
        dueTonight("nobody", x, 300, -1, 0);
        due("17: tonight(3)", x.tonight(3), -2);
        due("17: tonight(-1)", x.tonight(-1), -2);
        x = pair();
        dueTonight("waited", x, 20, 0, 0);
        x.become(1, 5, 20);
        dueTonight("up anyhow comes first", x, 20, 1, 1);
        x.become(1, 5, 21);
        dueTonight("too late", x, 20, 0, 0);
        x.become(1, 5, 0);
        dueTonight("up in minute 0", x, 0, 1, 1);
        x.become(1, 1, 1);
        dueTonight("he reads still", x, 20, 0, 0);
        x.become(1, 1, 19);
        x.become(1, 5, 19);
        x.become(0, 5, 19);
        dueTonight("the first one who is up", x, 19, 0, 1);
        x = pair();
        x.become(0, 4, 20);
        dueTonight("of two who waited the first", x, 30, 0, 0);
        longestNight();
    }

    /** The one with the least count waits till 260 at the most: so it burns out where nobody is. */
    private static void longestNight() {
        LastAwake x = new LastAwake();
        x.sleeper(4, 120, 1, 5, 60);
        x.sleeper(4, 120, 2, 5, 60);
        dueTonight("the longest", x, 260, 0, 0);
        x.pass(1);
        due("17: he waits longer", x.about(0, 2), 150);
        dueTonight("the longest, by the other", x, 260, 1, 0);
        x.become(1, 0, 5);
        dueTonight("the reader, 30 and 30 behind 120", x, 180, 1, 0);
        x = new LastAwake();
        x.sleeper(2, 0, 1, 0, 0);
        x.sleeper(0, 120, 0, 0, 60);
        // 10 minutes more for each night that he is ahead; behind 19 of them they take turns.
        x.pass(18);
        dueTonight("till both would", x, 180, 0, 0);
        x.pass(1);
        dueTonight("then the other", x, 180, 1, 0);
        x.pass(11);
        due("17: turns", x.about(0, 0), 24);
        due("17: turns", x.about(1, 0), 6);
    }

    private static void cost() {
        LastAwake x = new LastAwake();
        due("18: nobody", x.cost(0), -2);
        x.sleeper(0, 10, 1, 7, 10);
        x.sleeper(0, 0, 2, 3, 30);
        x.sleeper(0, 50, 9, 3, 30);
        due("18: who puts it out", x.cost(0), 10 + 7 + 32);
        due("18: who hates it", x.cost(1), 40);
        due("18: who reads", x.cost(2), 90);
        due("18: sleeper 3", x.cost(3), -2);
        due("18: sleeper -1", x.cost(-1), -2);
        x.cord(1);
        due("18: with a cord", x.cost(0), 10);
        x.become(0, 5, 15);
        due("18: anyhow, with a cord", x.cost(0), 5);
        x.cord(0);
        due("18: anyhow: the walk, not the cold", x.cost(0), 5 + 32);
        x.things(22, 9);
        x.things(17, 1);
        due("18: over things", x.cost(0), 5 + 34);
        x.things(0, 4);
        due("18: over the switch's own", x.cost(0), 5 + 42);
        x.things(23, 9);
        due("18: not over the bed's own", x.cost(0), 5 + 42);
        x.moon(33);
        due("18: by the moon", x.cost(0), 5 + 32);
        x.place(0, 22);
        due("18: the switch moved", x.cost(0), 5 + 22);
        x.place(1, 22);
        due("18: the bed moved", x.cost(0), 5);
    }

    private static void foretold() {
        LastAwake x = pair();
        x.pass(2);
        long before = x.digest();
        due("19: COUNT now", x.foretold(0, 0, 0), 2);
        due("19: PAID now", x.foretold(0, 1, 1), 80);
        due("19: all PAID now", x.foretold(0, -1, 1), 80 + 98);
        due("19: COUNT behind 60", x.foretold(60, 0, 0), 62);
        due("19: COUNTS behind 60", x.foretold(60, -1, 0), 62);
        due("19: PAID behind 60", x.foretold(60, 0, 1), 62 * 49);
        due("19: all PAID behind 60", x.foretold(60, -1, 1), 62 * 89);
        due("19: nothing changed", x.digest(), before);
        due("19: n 61", x.foretold(61, 0, 0), -2);
        due("19: n -1", x.foretold(-1, 0, 0), -2);
        due("19: sleeper 2", x.foretold(1, 2, 0), -2);
        due("19: sleeper -2", x.foretold(1, -2, 0), -2);
        due("19: what 2", x.foretold(1, 0, 2), -2);
        due("19: what -1", x.foretold(1, 0, -1), -2);
        dueStatus("19: foretold", x, 6, 0, 0);
    }

    private static void worth() {
        LastAwake x = pair();
        due("20: price 0", x.worth(0), 0);
        due("20: price 1", x.worth(1), 1);
        due("20: price 39", x.worth(39), 1);
        due("20: price 40", x.worth(40), 2);
        due("20: price 60 * 39", x.worth(60 * 39), 60);
        due("20: price 60 * 39 + 1", x.worth(60 * 39 + 1), -1);
        due("20: price 9999", x.worth(9999), -1);
        due("20: price 10000", x.worth(10000), -2);
        due("20: price -1", x.worth(-1), -2);
        x.cord(1);
        due("20: with one already", x.worth(40), 2);
        x.become(0, 5, 15);
        due("20: anyhow it saves the walk alone", x.worth(33), 2);
        dueStatus("20: worth", x, 2, 0, 0);
    }

    private static void reading() {
        LastAwake x = new LastAwake();
        due("21: nobody", x.reading(0), -2);
        x.sleeper(0, 0, 0, 0, 0);
        // Alone he reads as long as he may, for he puts it out himself whenever.
        due("21: alone", x.reading(0), 120);
        x.become(0, 2, 9);
        x.become(0, 4, 60);
        due("21: alone, who hates and waits", x.reading(0), 120);
        x.sleeper(0, 0, 1, 0, 50);
        // The other puts it out at 50: he loses 3 for each minute behind it.
        due("21: till the other puts it out", x.reading(0), 50);
        x.become(0, 2, 0);
        due("21: of like ones the least", x.reading(0), 50);
        // Up anyhow in 30 he reads till then, and walks, or till 31, and hates what is left: that is nothing here.
        x.become(0, 5, 30);
        due("21: rather than get up", x.reading(0), 50);
        x.become(1, 4, 0);
        due("21: it is out at once", x.reading(0), 0);
        x.become(0, 5, 0);
        due("21: up at once, or read on", x.reading(0), 1);
        x.cord(1);
        due("21: with a cord, not at all", x.reading(0), 0);
        x.cord(0);
        x.become(1, 4, 50);
        x.place(1, 0);
        x.become(1, 1, 100);
        x.become(1, 2, 0);
        x.become(0, 5, 100);
        x.become(0, 2, 9);
        x.become(0, 4, 0);
        due("21: beside the switch, till he is up", x.reading(0), 120);
        due("21: sleeper 2", x.reading(2), -2);
        due("21: sleeper -1", x.reading(-1), -2);
        due("21: nothing changed", x.become(0, 1, 0), 0);
        dueStatus("21: reading", x, 3, 0, 0);
    }

    private static void waiting() {
        LastAwake x = new LastAwake();
        due("22: nobody", x.waiting(0, 1, 0), -10);
        x.sleeper(0, 0, 0, 5, 33);
        x.sleeper(0, 0, 0, 5, 44);
        long before = x.digest();
        // Who waits longer pays nothing, and of like ones the first gets up: so 1 waits 60, and 0 any time.
        due("22: how many", x.waiting(0, 1, 0), 7);
        due("22: the first", x.waiting(0, 1, 1), 6);
        due("22: the other way about", x.waiting(1, 0, 0), 7);
        due("22: the first, the other way about", x.waiting(1, 0, 1), 60);
        due("22: nothing changed", x.digest(), before);
        due("22: alike", x.waiting(0, 0, 0), -10);
        due("22: a 2", x.waiting(2, 0, 0), -10);
        due("22: b 2", x.waiting(0, 2, 0), -10);
        due("22: a -1", x.waiting(-1, 0, 0), -10);
        due("22: b -1", x.waiting(0, -1, 0), -10);
        due("22: what 2", x.waiting(0, 1, 2), -10);
        due("22: what -1", x.waiting(0, 1, -1), -10);
        dueStatus("22: waiting", x, 8, 0, 0);
        x = new LastAwake();
        x.sleeper(0, 0, 2, 0, 0);
        x.sleeper(0, 0, 9, 20, 0);
        due("22: another pair", x.waiting(0, 1, 0), countRests(x, 0, 1));
        due("22: another first", x.waiting(0, 1, 1), firstRest(x, 0, 1));
    }

    private static int costBy(LastAwake x, int a, int b, int i, int j, int of) {
        int wasA = x.become(a, 4, 10 * i);
        int wasB = x.become(b, 4, 10 * j);
        int cost = x.cost(of);
        x.become(a, 4, wasA);
        x.become(b, 4, wasB);
        return cost;
    }

    private static boolean rests(LastAwake x, int a, int b, int i, int j) {
        for (int k = 0; k <= 6; k++) {
            if (costBy(x, a, b, k, j, a) < costBy(x, a, b, i, j, a) || costBy(x, a, b, i, k, b) < costBy(x, a, b, i, j, b)) {
                return false;
            }
        }
        return true;
    }

    private static int countRests(LastAwake x, int a, int b) {
        int n = 0;
        for (int ij = 0; ij < 49; ij++) {
            n += rests(x, a, b, ij / 7, ij % 7) ? 1 : 0;
        }
        return n;
    }

    private static int firstRest(LastAwake x, int a, int b) {
        for (int ij = 0; ij < 49; ij++) {
            if (rests(x, a, b, ij / 7, ij % 7)) {
                return 10 * (ij / 7) + ij % 7;
            }
        }
        return -1;
    }

    private static void turns() {
        LastAwake x = new LastAwake();
        due("23: nobody", x.turns(3, -1), -1);
        due("23: nobody, the first", x.turns(3, 0), -1);
        due("23: nobody, none", x.turns(0, -1), -1);
        due("23: nobody comes ahead of not so many", x.turns(3, 3), -1);
        due("23: n 7", x.turns(7, -1), -10);
        due("23: n -1", x.turns(-1, -1), -10);
        due("23: i -2", x.turns(3, -2), -10);
        x.room(1, 1);
        x.sleeper(0, 60, 0, 10, 0);
        x.sleeper(0, 60, 0, 5, 0);
        x.pass(5);
        due("23: none", x.turns(0, -1), 0);
        due("23: not so many", x.turns(0, 0), -5);
        due("23: how much of 1", x.turns(1, -1), 5);
        due("23: whose", x.turns(1, 0), 1);
        due("23: how much of 3", x.turns(3, -1), 10);
        due("23: the first row", x.turns(3, 0), 0);
        due("23: the first row", x.turns(3, 1), 1);
        due("23: the first row", x.turns(3, 2), 1);
        due("23: not so many", x.turns(3, 3), -5);
        due("23: not so many", x.turns(3, Integer.MAX_VALUE), -5);
        due("23: how much of 6", x.turns(6, -1), 20);
        due("23: who bears more comes as often as he can", x.turns(6, 1), 0);
        due("23: then the other", x.turns(6, 2), 1);
        due("23: then the other", x.turns(6, 5), 1);
        x.cord(1);
        due("23: with a cord", x.turns(6, -1), 0);
        due("23: with a cord, the first does all", x.turns(6, 5), 0);
        x.cord(0);
        x.become(0, 1, 50);
        x.become(0, 2, 3);
        due("23: he hates the light", x.turns(1, -1), 30);
        due("23: so the other does", x.turns(1, 0), 1);
        x.become(1, 1, 80);
        due("23: the other reads", x.turns(1, -1), 60);
        due("23: whoever bears the less", x.turns(1, 0), 0);
        x.room(2, 1);
        x.sleeper(0, 60, 0, 10, 0);
        x.become(0, 5, 60);
        due("23: not up anyhow, and the walk", x.turns(2, -1), 28);
        dueStatus("23: turns", x, 3, 0, 0);
    }

    private static void shoe() {
        LastAwake x = new LastAwake();
        due("24: shoe(3, 2, 0)", x.shoe(3, 2, 0), 1);
        dueFraction("24: shoe(3, 2, 0)", x, 51, 100);
        due("24: shoe(3, 2, 1)", x.shoe(3, 2, 1), 1);
        dueFraction("24: shoe(3, 2, 1)", x, 17, 10);
        x.shoe(0, 9, 1);
        dueFraction("24: shoe(0, 9, 1)", x, 9, 1);
        x.shoe(10, 9, 1);
        dueFraction("24: shoe(10, 9, 1)", x, 1, 1);
        x.shoe(10, 0, 0);
        dueFraction("24: shoe(10, 0, 0)", x, 0, 1);
        x.shoe(1, 9, 0);
        dueFraction("24: shoe(1, 9, 0)", x, 612579511, 1000000000);
        int[][] bad = {{11, 0, 0}, {-1, 0, 0}, {0, 10, 0}, {0, -1, 0}, {0, 0, 2}, {0, 0, -1}};
        for (int[] b : bad) {
            due("24: bad shoe", x.shoe(b[0], b[1], b[2]), -2);
        }
        dueFraction("24: refused ones changed nothing", x, 612579511, 1000000000);
        dueStatus("24: shoe", x, 6, 0, 0);
    }

    private static void clap() {
        LastAwake x = new LastAwake();
        due("25: clap(3, 0, 1)", x.clap(3, 0, 1), 1);
        dueFraction("25: clap(3, 0, 1)", x, 7, 10);
        x.clap(3, 2, 1);
        dueFraction("25: clap(3, 2, 1)", x, 31, 50);
        x.clap(10, 10, 8);
        dueFraction("25: clap(10, 10, 8)", x, 1, 1);
        x.clap(0, 10, 3);
        dueFraction("25: clap(0, 10, 3)", x, 0, 1);
        x.clap(7, 7, 0);
        dueFraction("25: clap(7, 7, 0)", x, 1, 1);
        x.clap(1, 0, 2);
        dueFraction("25: clap(1, 0, 2)", x, 41, 50);
        int[][] bad = {{11, 0, 0}, {-1, 0, 0}, {0, 11, 0}, {0, -1, 0}, {0, 0, 9}, {0, 0, -1}};
        for (int[] b : bad) {
            due("25: bad clap", x.clap(b[0], b[1], b[2]), -2);
        }
        dueFraction("25: refused ones changed nothing", x, 41, 50);
    }

    private static void asleep() {
        LastAwake x = new LastAwake();
        due("26: asleep", x.asleep(5, 9, 2, 1, 2), 1);
        // even, then not: 9 of 10 and 1 of 10, against 2 of 10 and 8 of 10.
        dueFraction("26: asleep(5, 9, 2, 1, 2)", x, 9, 25);
        x.asleep(3, 9, 2, 2, 2);
        dueFraction("26: asleep(3, 9, 2, 2, 2)", x, 27, 139);
        x.asleep(4, 5, 5, 63, 6);
        dueFraction("26: asleep(4, 5, 5, 63, 6)", x, 2, 5);
        x.asleep(5, 3, 3, 0, 0);
        dueFraction("26: as likely as not", x, 1, 2);
        x.asleep(5, 10, 0, 7, 3);
        dueFraction("26: he who feigns is never even", x, 1, 1);
        x.asleep(0, 5, 5, 0, 0);
        dueFraction("26: never", x, 0, 1);
        x.asleep(10, 5, 5, 0, 1);
        dueFraction("26: always", x, 1, 1);
        due("26: it can not be", x.asleep(10, 0, 5, 1, 1), -3);
        due("26: it can not be, too", x.asleep(5, 10, 10, 0, 1), -3);
        dueFraction("26: refused ones changed nothing", x, 1, 1);
        int[][] bad = {{11, 0, 0, 0, 0}, {-1, 0, 0, 0, 0}, {0, 11, 0, 0, 0}, {0, -1, 0, 0, 0}, {0, 0, 11, 0, 0},
            {0, 0, -1, 0, 0}, {0, 0, 0, -1, 3}, {0, 0, 0, 8, 3}, {0, 0, 0, 1, 0}, {0, 0, 0, 64, 6}, {0, 0, 0, 0, 7},
            {0, 0, 0, 0, -1}, {0, 0, 0, 0, 40}};
        for (int[] b : bad) {
            due("26: bad asleep", x.asleep(b[0], b[1], b[2], b[3], b[4]), -2);
        }
        dueStatus("26: asleep", x, 13, 2, 0);
    }

    private static void notes() {
        LastAwake x = new LastAwake();
        due("27: nobody", x.note(0, 0), -2);
        x.sleeper(0, 0, 0, 0, 0);
        x.sleeper(0, 0, 0, 0, 0);
        due("27: sleeper 2", x.note(2, 0), -2);
        due("27: sleeper -1", x.note(-1, 0), -2);
        due("27: of one that is not there", x.note(0, 4), -2);
        due("27: some -1", x.note(0, -1), -2);
        for (int i = 0; i < 8; i++) {
            due("27: note " + i, x.note(i % 2, i % 4), i);
            due("35: NOTES", x.count(7), i + 1);
        }
        due("27: FULL", x.note(0, 1), -4);
        due("27: BAD ahead of FULL", x.note(0, 16), -2);
        dueStatus("27: note", x, 6, 0, 1);
        due("28: burn()", x.burn(), 8);
        due("28: burn() again", x.burn(), 0);
        due("27: from 0 again", x.note(0, 1), 0);
    }

    private static void who() {
        LastAwake x = new LastAwake();
        due("29: nobody", x.who(0), 0);
        for (int i = 0; i < 4; i++) {
            x.sleeper(0, 0, 0, 0, 0);
        }
        due("29: no notes", x.who(0), 15);
        due("29: no notes, a liar", x.who(1), 0);
        x.note(0, 2);
        due("29: one is right", x.who(0), 2);
        due("29: one lies", x.who(1), 13);
        x.note(1, 12);
        due("29: both right", x.who(0), 0);
        due("29: one of two", x.who(1), 14);
        due("29: both lie", x.who(2), 1);
        x.note(0, 3);
        due("29: he is both: 0 is out", x.who(2), 0);
        due("29: one of two", x.who(1), 14);
        x.note(2, 0);
        due("29: nobody moved it: a lie", x.who(1), 0);
        due("29: nobody moved it: a lie", x.who(2), 14);
        x.note(3, 4);
        due("29: three", x.who(3), 10);
        due("29: four", x.who(4), 0);
        due("29: liars 5", x.who(5), -2);
        due("29: liars -1", x.who(-1), -2);
    }

    private static void drawn() {
        LastAwake x = new LastAwake();
        due("30: nobody", x.drawn(0, 0, 0), -2);
        x.sleeper(0, 0, 0, 0, 60);
        x.sleeper(0, 60, 0, 0, 60);
        x.pass(3);
        x.become(1, 5, 0);
        long before = x.digest();
        due("30: no nights", x.drawn(0, 0, 0), 0);
        // Seed 1: X is 1103527590, 16838 of 65536ths, 98 of 180; then 377401575, 5758, 178: never.
        due("30: seed 1, one night, 0 waited till 60", x.drawn(1, 1, 0), 1);
        for (int seed = 0; seed < 20; seed++) {
            int[] want = drawnPlainly(seed, 60);
            due("30: seed " + seed + " of 0", x.drawn(seed, 60, 0), want[0]);
            due("30: seed " + seed + " of 1", x.drawn(seed, 60, 1), want[1]);
        }
        due("30: the last seed", x.drawn(999999, 60, 0), drawnPlainly(999999, 60)[0]);
        due("30: nothing changed", x.digest(), before);
        due("30: seed 1000000", x.drawn(1000000, 1, 0), -2);
        due("30: seed -1", x.drawn(-1, 1, 0), -2);
        due("30: n 61", x.drawn(0, 61, 0), -2);
        due("30: n -1", x.drawn(0, -1, 0), -2);
        due("30: sleeper 2", x.drawn(0, 1, 2), -2);
        due("30: sleeper -1", x.drawn(0, 1, -1), -2);
        dueStatus("30: drawn", x, 7, 0, 0);
    }

    /** Two plain ones: 0 reads never and waits till 60; 1 reads till 60, so he comes first only if up in 60 just. */
    private static int[] drawnPlainly(int seed, int n) {
        int[] counts = new int[2];
        long x = seed;
        for (int night = 0; night < n; night++) {
            x = (x * 1103515245L + 12345L) % (1L << 31);
            long up0 = x / 65536 % 180;
            x = (x * 1103515245L + 12345L) % (1L << 31);
            long up1 = x / 65536 % 180;
            counts[up1 == 60 && up0 > 60 ? 1 : 0]++;
        }
        return counts;
    }

    private static void images() {
        LastAwake x = pair();
        x.pass(2);
        x.note(1, 3);
        x.shoe(5, 1, 0);
        x.type(65);
        due("32: image(2)", x.image(2), -2);
        due("32: image(-1)", x.image(-1), -2);
        due("33: from(2)", x.from(2), -2);
        due("33: from(-1)", x.from(-1), -2);
        due("33: none was kept", x.from(1), -3);
        due("32: image(1)", x.image(1), 1);
        due("33: the other was not", x.from(0), -3);
        long kept = x.digest();
        x.pass(20);
        x.burn();
        x.place(0, 3);
        x.place(1, 3);
        x.moon(3);
        x.cord(1);
        x.things(5, 5);
        x.become(0, 0, 5);
        x.sleeper(0, 0, 0, 0, 0);
        x.note(2, 5);
        x.note(0, 4);
        due("32: image(0)", x.image(0), 1);
        long later = x.digest();
        due("33: from(1)", x.from(1), 1);
        due("33: as it was", x.digest(), kept);
        due("33: what may be undone", x.count(9), 2);
        due("33: undo", x.undo(), 1);
        due("33: PAID", x.about(1, 1), 40);
        x.things(6, 6);
        due("33: from(1) again", x.from(1), 1);
        due("33: the image is untouched", x.digest(), kept);
        due("33: from(0)", x.from(0), 1);
        due("33: the later one", x.digest(), later);
        x.room(2, 2);
        x.clear();
        x.clap(10, 0, 1);
        due("33: from(0)", x.from(0), 1);
        due("33: not the text", x.count(10), 0);
        dueFraction("33: not the fraction", x, 0, 1);
        dueStatus("33: not status", x, 4, 2, 0);
        due("32: kept again", x.image(1), 1);
        x.room(1, 1);
        x.from(1);
        due("32: the newer one", x.count(6), 3);
    }

    private static void status() {
        LastAwake x = new LastAwake();
        due("34: another what", x.status(3), -1);
        due("34: another what", x.status(-1), -1);
        due("31: part(2)", x.part(2), -2);
        due("31: part(-1)", x.part(-1), -2);
        dueStatus("34: each is BAD", x, 4, 0, 0);
        x.undo();
        x.turns(2, 2);
        x.turns(2, -1);
        x.bed();
        x.read();
        x.worth(9);
        dueStatus("34: NO; others are none", x, 4, 1, 0);
    }

    private static void count() {
        LastAwake x = pair();
        x.room(5, 3);
        x.place(0, 4);
        x.place(1, 7);
        x.moon(19);
        x.cord(1);
        x.sleeper(0, 0, 0, 0, 0);
        x.note(0, 1);
        x.note(0, 1);
        x.pass(11);
        x.undo();
        x.type(1);
        x.type(1);
        x.type(1);
        dueCounts("35:", x, 5, 3, 4, 7, 19, 1, 1, 2, 10, 7, 3);
        due("35: count(11)", x.count(11), -2);
        due("35: count(-1)", x.count(-1), -2);
        dueStatus("35: count", x, 2, 0, 0);
    }

    private static long mix(long h, long... values) {
        for (long v : values) {
            h = 31 * h + v;
        }
        return h;
    }

    private static void digest() {
        LastAwake x = new LastAwake();
        long want = mix(mix(857, 6, 4, 0, 23, 0, 0, 0, 0, 0, 0, 0), new long[24]);
        due("36: new", x.digest(), mix(want, 0, 1));
        x.room(2, 1);
        x.things(1, 7);
        x.sleeper(1, 2, 3, 4, 5);
        x.sleeper(2, 3, 4, 5, 6);
        x.become(1, 5, 100);
        x.note(1, 2);
        x.note(0, 3);
        x.pass(1);
        x.shoe(1, 1, 0);
        x.type(59);
        // 0 puts it out at 7: 5 minutes hated, cold 4, and twice 2; 1 has hated 4 minutes.
        want = mix(857, 2, 1, 0, 1, 0, 0, 2, 2, 1, 1, 1);
        want = mix(want, 0, 7, 1, 2, 3, 4, 5, -1, 1, 15 + 4 + 4, 2, 3, 4, 5, 6, 100, 0, 16);
        due("36: digest", x.digest(), mix(want, 1, 2, 0, 3, 1, 10));
    }
}
