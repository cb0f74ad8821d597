import java.util.ArrayList;
import java.util.List;

/**
 * The text of a room: each number of each item at its least, at its most and beyond; each fault that the document
 * lists; a text that ends too early, wherever it ends; each byte there is, wherever a token may begin.
 */
public final class TextTest {
    private static int wrong = 0;
    private static int looks = 0;

    private static void due(String call, long got, long want) {
        looks++;
        if (got != want) {
            wrong++;
            System.out.println(call + " answered " + got + ", due is " + want);
        }
    }

    private static void typeAll(LastAwake x, String text) {
        x.clear();
        for (int i = 0; i < text.length(); i++) {
            due("9: type", x.type(text.charAt(i)), i + 1);
        }
    }

    /** Something that would be seen to be gone. */
    private static LastAwake lived() {
        LastAwake x = new LastAwake();
        x.room(3, 2);
        x.place(0, 4);
        x.place(1, 1);
        x.things(2, 9);
        x.moon(6);
        x.cord(1);
        x.sleeper(1, 10, 2, 3, 4);
        x.sleeper(2, 20, 3, 4, 5);
        x.become(0, 5, 11);
        x.become(1, 5, 22);
        x.note(1, 1);
        x.shoe(5, 1, 0);
        x.image(1);
        x.pass(4);
        return x;
    }

    private static LastAwake dueItems(String text, int items) {
        LastAwake x = lived();
        typeAll(x, text);
        due("11: read \"" + text + "\"", x.read(), items);
        due("11: the text stays: \"" + text + "\"", x.count(10), text.length());
        dueStatus(text, x);
        return x;
    }

    private static void dueStatus(String text, LastAwake x) {
        for (int what = 0; what < 3; what++) {
            due("34: status(" + what + ") behind \"" + text + "\"", x.status(what), 0);
        }
    }

    /** "-10 less the FAULT: all stays." */
    private static void dueFault(String text, int fault) {
        LastAwake x = lived();
        typeAll(x, text);
        long before = x.digest();
        due("11: read \"" + text + "\"", x.read(), -10 - fault);
        dueStatus(text, x);
        due("11: all stays behind \"" + text + "\"", x.digest(), before);
        due("11: the text stays behind \"" + text + "\"", x.read(), -10 - fault);
        for (int i = 0; i < 4; i++) {
            due("11: what may be undone stays behind \"" + text + "\"", x.undo(), 1);
        }
        due("11: no more may be undone behind \"" + text + "\"", x.undo(), -3);
        due("11: image 0 was not kept", x.from(0), -3);
        due("11: image 1 stays", x.from(1), 1);
        due("11: the image as it was", x.digest(), imageOfLived(text.length()));
    }

    private static long imageOfLived(int bytes) {
        LastAwake x = lived();
        for (int i = 0; i < 4; i++) {
            x.undo();
        }
        for (int i = 0; i < bytes; i++) {
            x.type(' ');
        }
        // Undone, it has no night, as the image has none.
        return x.digest();
    }

    private static final String ROOM = "room 5 3;";
    private static final String ONE = ROOM + "sleeper 1 2 3 4 5;";

    /** A number in its place: as told from its least to its most, a fault right above, and of more figures. */
    private static void dueNumber(String ahead, int least, int most, String behind) {
        int items = count(ahead + behind);
        for (int v = least; v <= most; v++) {
            dueItems(ahead + v + behind, items);
        }
        for (int v = 0; v < least; v++) {
            dueFault(ahead + v + behind, ahead.length());
        }
        dueFault(ahead + (most + 1) + behind, ahead.length());
        dueFault(ahead + "999" + behind, ahead.length());
        dueFault(ahead + "0000" + behind, ahead.length());
        dueFault(ahead + "000" + most + behind, ahead.length());
        dueFault(ahead + "-1" + behind, ahead.length());
        dueFault(ahead + "a" + behind, ahead.length());
        dueFault(ahead + "cord" + behind, ahead.length());
        dueFault(ahead + ";" + behind, ahead.length());
        dueFault(ahead + ";", ahead.length());
        dueFault(ahead.substring(0, ahead.length() - 1), ahead.length() - 1);
        dueFault(ahead, ahead.length());
        dueFault(ahead + most, ahead.length() + ("" + most).length());
    }

    private static int count(String text) {
        return text.replaceAll("[^;]", "").length();
    }

    private static void eachNumber() {
        dueNumber("room ", 1, 7, " 3;");
        dueNumber("room 3 ", 1, 7, ";");
        dueNumber(ROOM + "switch ", 0, 14, ";");
        dueNumber(ROOM + "bed ", 0, 14, ";");
        dueNumber(ROOM + "thing ", 0, 14, " 0;");
        dueNumber(ROOM + "thing 0 ", 0, 9, ";");
        dueNumber(ROOM + "moon ", 0, 4, ";");
        dueNumber(ROOM + "sleeper ", 0, 5, " 0 0 0 0;");
        dueNumber(ROOM + "sleeper 0 ", 0, 120, " 0 0 0;");
        dueNumber(ROOM + "sleeper 0 0 ", 0, 9, " 0 0;");
        dueNumber(ROOM + "sleeper 0 0 0 ", 0, 20, " 0;");
        dueNumber(ROOM + "sleeper 0 0 0 0 ", 0, 60, ";");
        dueNumber(ONE + "up ", 0, 0, " 0;");
        dueNumber(ONE + "up 0 ", 0, 120, ";");
        dueNumber("room 1 1;switch ", 0, 0, ";");
        dueNumber("room 7 7;bed ", 0, 48, ";");
        dueNumber("room 7 7;thing ", 0, 48, " 9;");
        dueNumber("room 7 1;moon ", 0, 6, ";");
        dueNumber("room 1 7;moon ", 0, 0, ";");
    }

    private static void dueNow(String text, LastAwake x, int... want) {
        for (int what = 0; what < want.length; what++) {
            due("35: count(" + what + ") behind \"" + text + "\"", x.count(what), want[what]);
        }
    }

    /** What each item does, at the ends of its numbers, and what is so if it is not told. */
    private static void whatItemsTell() {
        dueNow("room 1 1;", dueItems("room 1 1;", 1), 1, 1, 0, 0, 0, 0, 0, 0, 0, 0, 9);
        dueNow("room 7 7;", dueItems("room 7 7;", 1), 7, 7, 0, 48, 0, 0, 0, 0, 0, 0, 9);
        dueNow("switch", dueItems(ROOM + "switch 14;", 2), 5, 3, 14, 14, 0, 0, 0, 0, 0, 0);
        dueNow("switch", dueItems(ROOM + "switch 14;switch 0;", 3), 5, 3, 0, 14, 0, 0, 0, 0, 0, 0);
        dueNow("bed", dueItems(ROOM + "bed 0;", 2), 5, 3, 0, 0, 0, 0, 0, 0, 0, 0);
        dueNow("moon", dueItems(ROOM + "moon 0;moon 4;moon 0;", 4), 5, 3, 0, 14, 17, 0, 0, 0, 0, 0);
        dueNow("moon", dueItems("room 7 1;moon 6;", 2), 7, 1, 0, 6, 64, 0, 0, 0, 0, 0);
        dueNow("cord", dueItems(ROOM + "cord;", 2), 5, 3, 0, 14, 0, 1, 0, 0, 0, 0);
        dueNow("cord", dueItems(ROOM + "cord;cord;", 3), 5, 3, 0, 14, 0, 1, 0, 0, 0, 0);
        LastAwake x = dueItems(ROOM + "thing 0 9;thing 14 9;thing 14 0;thing 7 1;", 5);
        for (int c = 0; c < 15; c++) {
            due("11: things in " + c, x.things(c, 0), c == 0 ? 9 : c == 7 ? 1 : 0);
        }
        x = dueItems(ROOM + "sleeper 0 0 0 0 0;sleeper 5 120 9 20 60;up 1 120;", 4);
        dueSleeper(x, 0, 0, 0, 0, 0, 0, -1);
        dueSleeper(x, 1, 5, 120, 9, 20, 60, 120);
        x = dueItems(ROOM + "sleeper 0 0 0 0 0;up 0 120;up 0 0;sleeper 1 1 1 1 1;", 5);
        dueSleeper(x, 0, 0, 0, 0, 0, 0, 0);
        dueSleeper(x, 1, 1, 1, 1, 1, 1, -1);
    }

    private static void dueSleeper(LastAwake x, int sleeper, int... want) {
        for (int what = 0; what < want.length; what++) {
            due("11: sleeper " + sleeper + ", what " + what, x.become(sleeper, what, want[what]), want[what]);
        }
        due("11: COUNT of sleeper " + sleeper, x.about(sleeper, 0), 0);
        due("11: PAID of sleeper " + sleeper, x.about(sleeper, 1), 0);
    }

    /** "All but IMAGES, THE TEXT, THE FRACTION, STATUS; nothing to undo." */
    private static void whatStays() {
        LastAwake x = dueItems(ROOM, 1);
        due("11: no NOTES", x.burn(), 0);
        due("11: nobody", x.cost(0), -2);
        due("11: nothing to undo", x.undo(), -3);
        due("11: THE FRACTION, above", x.part(0), 1);
        due("11: THE FRACTION, below", x.part(1), 2);
        due("11: STATUS, BAD", x.status(0), 1);
        due("11: STATUS, NO", x.status(1), 1);
        due("11: image 0 was not kept", x.from(0), -3);
        due("11: image 1", x.from(1), 1);
        due("11: as the image was", x.digest(), imageOfLived(ROOM.length()));
        due("11: the same text again", x.read(), 1);
        dueNow("again", x, 5, 3, 0, 14, 0, 0, 0, 0, 0, 0, 9);
    }

    // ---- faults

    private static final String[] WORDS = {"room", "switch", "bed", "thing", "moon", "cord", "sleeper", "up"};

    /** "A word that is none": one letter more, one less, one other, at each place. */
    private static void wordsThatAreNone() {
        for (String word : WORDS) {
            String ahead = word.equals("room") ? "" : ROOM;
            for (int i = 0; i <= word.length(); i++) {
                dueWordIsNone(ahead, word.substring(0, i) + "q" + word.substring(i));
            }
            for (int i = 0; i < word.length(); i++) {
                dueWordIsNone(ahead, word.substring(0, i) + word.substring(i + 1));
                dueWordIsNone(ahead, word.substring(0, i) + "q" + word.substring(i + 1));
                String upper = word.substring(0, i) + Character.toUpperCase(word.charAt(i)) + word.substring(i + 1);
                dueWordIsNone(ahead, upper);
            }
            dueWordIsNone(ahead, word + word);
            dueWordIsNone(ahead, "a".repeat(140));
        }
    }

    private static void dueWordIsNone(String ahead, String word) {
        dueFault(ahead + word + ";", ahead.length());
        dueFault(ahead + word, ahead.length());
    }

    /** "Room again", and "anything ahead of it". */
    private static void roomOnceAndFirst() {
        dueFault(ROOM + ROOM, 9);
        dueFault(ROOM + "room", 9);
        dueFault(ROOM + "room 8 8;", 9);
        dueFault(ROOM + "cord;" + ROOM, 14);
        dueFault(ROOM + "  " + ROOM, 11);
        for (String word : WORDS) {
            if (!word.equals("room")) {
                dueFault(word, 0);
                dueFault(word + " 0;" + ROOM, 0);
                dueFault("  " + word + " 0;", 2);
            }
        }
        dueFault("5 3;", 0);
        dueFault(";", 0);
        dueFault(" ;" + ROOM, 1);
    }

    /** "A 5th sleeper at its word", whatever comes behind; four are fine. */
    private static void fifthSleeper() {
        String four = ROOM + "sleeper 0 0 0 0 0;".repeat(4);
        dueItems(four, 5);
        dueNow(four, dueItems(four + "up 3 120;", 6), 5, 3, 0, 14, 0, 0, 4);
        dueFault(four + "sleeper 0 0 0 0 0;", 81);
        dueFault(four + "sleeper 6;", 81);
        dueFault(four + "sleeper", 81);
        dueFault(four + "cord;  sleeper 0 0 0 0 0;", 88);
    }

    /** "A SLEEPER that is not there yet": told behind is too late; those of the room that is now are none. */
    private static void sleeperNotThereYet() {
        dueFault(ROOM + "up 0 0;", 12);
        dueFault(ROOM + "up 0 0;sleeper 0 0 0 0 0;", 12);
        dueFault(ONE + "up 1 0;sleeper 0 0 0 0 0;", 30);
        dueItems(ONE + "sleeper 0 0 0 0 0;up 1 0;", 4);
        String three = ROOM + "sleeper 0 0 0 0 0;".repeat(3);
        dueItems(three + "up 2 0;", 5);
        dueFault(three + "up 3 0;", 66);
        dueFault(three + "sleeper 0 0 0 0 0;up 4 0;", 84);
    }

    /** A number, a word or ; where there is none to be. */
    private static void tokensOutOfPlace() {
        dueFault("room 5 3 1;", 9);
        dueFault("room 5 3 cord;", 9);
        dueFault(ROOM + "cord 1;", 14);
        dueFault(ROOM + "cord cord;", 14);
        dueFault(ROOM + ";", 9);
        dueFault(ROOM + "cord;;", 14);
        dueFault(ROOM + "7;", 9);
        dueFault(ROOM + "thing 1 2 3;", 19);
        dueFault(ROOM + "switch 1 2;", 18);
        dueFault(ROOM + "bed 1 2;", 15);
        dueFault(ROOM + "moon 1 2;", 16);
        dueFault(ROOM + "sleeper 0 0 0 0 0 0;", 27);
        dueFault(ONE + "up 0 0 0;", 34);
        dueFault(ROOM + "bed 1bed 1;", 14);
        dueFault("room 53;", 5);
        dueFault("room 5;", 6);
    }

    /** "1 to 3 figures are one number": as many as three, with noughts ahead, too. */
    private static void figures() {
        dueNow("figures", dueItems("room 005 03;bed 009;", 2), 5, 3, 0, 9);
        dueNow("figures", dueItems("room 05 3;switch 000;bed 014;", 3), 5, 3, 0, 14);
        dueItems(ROOM + "sleeper 005 120 009 020 060;up 000 120;", 3);
        dueFault("room 0005 3;", 5);
        dueFault("room 5 0003;", 7);
        dueFault(ROOM + "bed 0009;", 13);
        dueFault(ROOM + "bed 00000000000000000000009;", 13);
        dueFault(ROOM + "bed 4294967296;", 13);
        dueFault(ROOM + "bed 4294967297", 13);
        dueFault(ROOM + "sleeper 0 1200 0 0 0;", 19);
        // With its first three figures it would be a good one: it is none.
        dueFault(ROOM + "sleeper 0 0120 0 0 0;", 19);
        dueFault(ROOM + "thing 0019;", 15);
    }

    private static void blanks() {
        dueItems("room5 3;", 1);
        dueItems("room5 3;bed1;thing2 3;moon4;cord;", 5);
        dueItems("  room  5  3  ;  cord  ;  ", 2);
        dueItems("room 5 3;cord ;", 2);
        dueFault("ro om 5 3;", 0);
        dueFault(ROOM + "co rd;", 9);
        dueFault(ROOM + "bed 1 4;", 15);
    }

    // ---- a text that ends too early

    /** Cut behind each byte: a word that is cut is none; else it ends too early, if it ends not behind ; . */
    private static void textsThatEnd() {
        String whole = "room 5 3;switch 14 ; bed 0;thing 13 9;moon 4;cord;sleeper 0 120 9 20 60 ;up 0 120;  ";
        int items = 0;
        for (int length = 0; length <= whole.length(); length++) {
            String text = whole.substring(0, length);
            items += text.endsWith(";") ? 1 : 0;
            String trimmed = text.trim();
            if (trimmed.endsWith(";")) {
                dueItems(text, items);
            } else if (endsInsideWord(whole, length)) {
                dueFault(text, startOfWord(text));
            } else {
                dueFault(text, length);
            }
        }
        dueFault("", 0);
        dueFault(" ", 1);
        dueFault(" ".repeat(150), 150);
    }

    private static boolean isLetter(char c) {
        return c >= 'a' && c <= 'z';
    }

    private static boolean endsInsideWord(String whole, int length) {
        return length > 0 && length < whole.length() && isLetter(whole.charAt(length - 1)) && isLetter(whole.charAt(length));
    }

    private static int startOfWord(String text) {
        int start = text.length();
        while (start > 0 && isLetter(text.charAt(start - 1))) {
            start--;
        }
        return start;
    }

    // ---- each byte

    /** "A byte that begins none, too": of all 128 in each place in which a token may begin. */
    private static void eachByte() {
        for (char c = 0; c < 128; c++) {
            boolean blank = c == ' ';
            dueFault("" + c, blank ? 1 : 0);
            dueFault(c + "2", blank ? 1 : 0);
            dueFault(ROOM + c + ";", blank ? 10 : 9);
            byteForANumber(c);
            byteForAStop(c);
            byteBehindAWord(c);
        }
    }

    private static void byteForANumber(char c) {
        boolean figure = c >= '0' && c <= '9';
        dueFault("room 5 " + c, c == ' ' || c >= '1' && c <= '7' ? 8 : 7);
        dueFault(ROOM + "bed " + c, c == ' ' || figure ? 14 : 13);
        dueFault(ROOM + "moon " + c, c == ' ' || c >= '0' && c <= '4' ? 15 : 14);
    }

    private static void byteForAStop(char c) {
        if (c == ';') {
            dueItems(ROOM + "bed 1 " + c, 2);
            dueItems(ROOM + "cord" + c, 2);
            return;
        }
        dueFault(ROOM + "bed 1 " + c, c == ' ' ? 16 : 15);
        dueFault(ROOM + "cord " + c, c == ' ' ? 15 : 14);
    }

    private static void byteBehindAWord(char c) {
        boolean figure = c >= '0' && c <= '9';
        int fault = isLetter(c) ? 9 : c == ' ' || figure ? 13 : 12;
        dueFault(ROOM + "bed" + c, fault);
    }

    // ---- as long as it can be

    private static void longest() {
        LastAwake x = new LastAwake();
        for (int i = 1; i <= 150; i++) {
            due("9: type", x.type(i <= 9 ? ROOM.charAt(i - 1) : ' '), i);
        }
        due("9: the 151st", x.type(' '), -4);
        due("35: bytes", x.count(10), 150);
        due("34: FULL", x.status(2), 1);
        due("11: read", x.read(), 1);
        due("10: clear()", x.clear(), 150);
        due("10: clear() again", x.clear(), 0);
        due("35: no bytes", x.count(10), 0);
        due("11: an empty one", x.read(), -10);
        due("9: the first again", x.type(';'), 1);
        due("11: the old bytes are gone", x.read(), -10);
        List<String> texts = new ArrayList<>();
        texts.add("room1 1;" + " ".repeat(2) + "cord;".repeat(28));
        texts.add(" ".repeat(1) + ROOM + "cord;".repeat(28));
        for (String text : texts) {
            due("11: 150 bytes", text.length(), 150);
            dueItems(text, 29);
        }
        dueFault(ROOM + "cord;".repeat(28) + "u", 149);
        dueFault(ROOM + "cord;".repeat(27) + " bed 0", 150);
        dueFault(ROOM + "cord;".repeat(27) + "bed 15", 148);
        dueFault(ROOM + "cord;".repeat(27) + "  cord", 150);
        dueFault(ROOM + "cord;".repeat(27) + " cordq", 145);
        dueFault(ROOM + "cord;".repeat(27) + "bed  ;", 149);
    }

    public static void main(String[] args) {
        eachNumber();
        whatItemsTell();
        whatStays();
        wordsThatAreNone();
        roomOnceAndFirst();
        fifthSleeper();
        sleeperNotThereYet();
        tokensOutOfPlace();
        figures();
        blanks();
        textsThatEnd();
        eachByte();
        longest();
        System.out.println(wrong == 0 ? "all " + looks + " answers are as due" : wrong + " are not as due");
        if (wrong != 0) {
            System.exit(1);
        }
    }
}
