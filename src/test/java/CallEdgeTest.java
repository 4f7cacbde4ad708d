/** The promises one by one: what each call answers at the bounds that the document names, and beyond them. */
public final class CallEdgeTest {
    private static final int LEAST = Integer.MIN_VALUE;
    private static final int GREATEST = Integer.MAX_VALUE;
    // What no call knows, whatever it is asked for.
    private static final int[] NEVER = {LEAST, LEAST + 1, -3, -2, 1000, GREATEST - 1, GREATEST};
    private static final String RICH = "board 2 3;diodes;bounce 2;term 30;chording 4;twice 20;repeat 2 3;six;macro 8 9;"
            + "key 0 0 code 5;key 0 1 layer 1;key 0 2 toggle 2;key 0 3 hold 6 mod 3;key 0 4 code 7;key 1 4 mod 2;"
            + "chord 4 5 code 50;";

    private CallEdgeTest() {
    }

    public static void main(String[] args) {
        newObjectHasNothing();
        newObjectRefuses();
        feedHighestFirst();
        feedOfFull();
        feedRefusedAddsNothing();
        backOfNoneAndAll();
        backRefused();
        readEmpties();
        placeOfLatest();
        pressSame();
        pressNoKey();
        tickBounds();
        tickRefused();
        tickCountsReports();
        keyBounds();
        deedBounds();
        doesBounds();
        eventBounds();
        eventHowMany();
        reportKeepsForty();
        reportBounds();
        sentBounds();
        hostBounds();
        strokesBounds();
        chordBounds();
        macroBounds();
        ghostsBounds();
        ghostsOfNoBoard();
        ghostsParts();
        aheadBounds();
        aheadOfWaiting();
        aheadOfBarred();
        aheadChangesNothing();
        holdBounds();
        holdAnew();
        restoreBounds();
        restoreAll();
        restoreKeepsTape();
        restoreAfterTicks();
        restoreBarred();
        restoreChord();
        restoreReports();
        countBounds();
        countEach();
        mostCalls();
        Checks.close();
    }

    // ---- Promise 1

    private static void newObjectHasNothing() {
        Checks.sentence("KeyMatrix(): No BOARD: no ROWS, no COLUMNS");
        KeyMatrix x = new KeyMatrix();
        int[] counts = {0, 0, 0, 0, 1, 0, 0, 0, 0, 0, 0, 0, 0, 0, 0, 2, 8, 3, 6, 0, 20, 5, -1};
        for (int what = 0; what < counts.length; what++) {
            Checks.due("count(" + what + ")", x.count(what), counts[what]);
        }
        Checks.due("place()", x.place(), -1);
        Checks.due("event(NONE, 0)", x.event(-1, 0), 0);
        Checks.due("chord(NONE, 0)", x.chord(-1, 0), 0);
        Checks.sent(x, 0);
        Checks.host(x, -1, -1, 0, -1);
    }

    private static void newObjectRefuses() {
        Checks.sentence("no such one, no BOARD");
        KeyMatrix x = new KeyMatrix();
        Checks.no("press", x.press(0, true));
        Checks.no("press(0, false)", x.press(0, false));
        Checks.due("tick", x.tick(1), -1);
        Checks.due("NOW", x.count(2), 0);
        Checks.due("ahead", x.ahead(1, 0), -1);
        for (int what = 0; what < 6; what++) {
            Checks.due("key", x.key(0, what), -1);
            Checks.due("deed(0, ..)", x.deed(0, 0, what), -1);
            Checks.due("deed(NONE, ..)", x.deed(-1, 0, what), -1);
            Checks.due("does", x.does(0, what), -2);
            Checks.due("strokes", x.strokes(0, what), -2);
            Checks.due("event", x.event(0, what), -1);
            Checks.due("report", x.report(0, what), -1);
            Checks.due("chord", x.chord(0, what), -1);
            Checks.due("macro", x.macro(0, what - 1), -1);
        }
    }

    // ---- Promises 2 to 5

    private static void feedHighestFirst() {
        Checks.sentence("Twenty bytes, the highest of a first");
        KeyMatrix x = new KeyMatrix();
        Checks.due("feed", x.feed(0x626f6172, 0x64203120, 0x323b7369, 0x783b6469, 0x6f646573), 20);
        Checks.due("feed", x.feed(0x3b206d61, 0x63726f20, 0x31323320, 0x32303020, 0x3b090a0d), 40);
        Checks.due("read", x.read(), 0);
        Checks.due("COLUMNS", x.count(1), 2);
        Checks.due("six", x.count(14), 1);
        Checks.due("diodes", x.count(13), 1);
        Checks.due("macro(0, 0)", x.macro(0, 0), 123);
        Checks.due("macro(0, 1)", x.macro(0, 1), 200);
        // Bytes of 128 and more, each of them one.
        Checks.put(x, "board 1 2;");
        Checks.due("feed", x.feed(-1, LEAST, 0x80FF80FF, GREATEST, 0), 30);
        Checks.due("read", x.read(), 1);
        Checks.due("place", x.place(), 10);
    }

    private static void feedOfFull() {
        Checks.sentence("NONE, and nothing comes, if it would have more than 2,000");
        KeyMatrix x = new KeyMatrix();
        for (int i = 1; i <= 100; i++) {
            Checks.due("feed " + i, x.feed(0, 0, 0, 0, 0), 20 * i);
        }
        Checks.due("a 101st", x.feed(0, 0, 0, 0, 0), -1);
        for (int n = 1; n < 20; n++) {
            Checks.due("back", x.back(1), 2000 - n);
            Checks.due("feed", x.feed(0, 0, 0, 0, 0), -1);
            Checks.due("bytes", x.count(11), 2000 - n);
        }
        Checks.due("back", x.back(1), 1980);
        Checks.due("feed", x.feed(0, 0, 0, 0, 0), 2000);
    }

    private static void feedRefusedAddsNothing() {
        Checks.sentence("NONE, and nothing comes");
        KeyMatrix x = new KeyMatrix();
        StringBuilder text = new StringBuilder("board 1 2;");
        while (text.length() < 1981) {
            text.append(' ');
        }
        Checks.put(x, text.toString());
        Checks.due("feed", x.feed(-1, -1, -1, -1, -1), -1);
        Checks.due("bytes", x.count(11), 1981);
        Checks.due("read", x.read(), 0);
    }

    private static void backOfNoneAndAll() {
        Checks.sentence("The last n bytes of the tape go: how many it has");
        KeyMatrix x = new KeyMatrix();
        Checks.due("none of none", x.back(0), 0);
        Checks.put(x, "board 1 2;six;");
        Checks.due("none", x.back(0), 14);
        Checks.due("one", x.back(1), 13);
        Checks.due("three", x.back(3), 10);
        Checks.due("read", x.read(), 0);
        Checks.due("six", x.count(14), 0);
        Checks.put(x, "board 1 2;");
        Checks.due("all", x.back(10), 0);
        Checks.due("one of none", x.back(1), -1);
        Checks.put(x, "board 2 2;");
        Checks.due("read", x.read(), 0);
        Checks.due("ROWS", x.count(0), 2);
    }

    private static void backRefused() {
        Checks.sentence("NONE, and nothing goes, if it has not so many, or n is below 0");
        KeyMatrix x = new KeyMatrix();
        Checks.put(x, "board 1 2;");
        for (int n : new int[] {11, 12, 2000, 2001, GREATEST, -1, -10, LEAST}) {
            Checks.due("back(" + n + ")", x.back(n), -1);
            Checks.due("bytes", x.count(11), 10);
        }
        Checks.due("read", x.read(), 0);
    }

    private static void readEmpties() {
        Checks.sentence("The tape, which is empty then, is read: 0, or the number of its FAULT");
        KeyMatrix x = new KeyMatrix();
        Checks.due("an empty tape", x.read(), 1);
        String[] texts = {"board 1 2;", "board 1", "board 9 2;", "board 1 2;chord 1 1 code 1;", "board 1 2;macro 1;"
                + "macro 1;macro 1;macro 1;macro 1;"};
        int[] faults = {0, 1, 5, 3, 2};
        for (int i = 0; i < texts.length; i++) {
            Checks.put(x, texts[i]);
            Checks.due("read", x.read(), faults[i]);
            Checks.due("bytes", x.count(11), 0);
            Checks.due("back(1)", x.back(1), -1);
        }
        Checks.due("an empty tape", x.read(), 1);
    }

    private static void placeOfLatest() {
        Checks.sentence("The byte of the latest read()'s FAULT; NONE without");
        KeyMatrix x = new KeyMatrix();
        Checks.due("no read()", x.place(), -1);
        x.read();
        Checks.due("byte 0", x.place(), 0);
        Checks.fault(x, "board 1 2;six", 1, 13);
        Checks.put(x, "board 2 2;");
        Checks.due("until the next read()", x.place(), 13);
        x.read();
        Checks.due("without", x.place(), -1);
        Checks.fault(x, "board 5 2;", 5, 6);
        x.press(0, true);
        x.tick(3);
        x.hold(0);
        x.restore(0);
        x.back(0);
        Checks.due("other calls leave it", x.place(), 6);
    }

    // ---- Promises 6 and 7

    private static void pressSame() {
        Checks.sentence("false, and nothing happens: it is so");
        KeyMatrix x = Checks.board("board 4 6;");
        for (int key : new int[] {0, 5, 6, 23}) {
            Checks.no("open already", x.press(key, false));
            Checks.yes("close", x.press(key, true));
            Checks.no("closed already", x.press(key, true));
            Checks.due("its SWITCH", x.key(key, 0), 1);
            Checks.yes("open", x.press(key, false));
            Checks.due("its SWITCH", x.key(key, 0), 0);
        }
        Checks.due("all are open", x.count(7), 0);
    }

    private static void pressNoKey() {
        Checks.sentence("false, and nothing happens: no such one");
        for (int rows = 1; rows <= 4; rows++) {
            for (int columns = 1; columns <= 6; columns++) {
                KeyMatrix x = Checks.board("board " + rows + " " + columns + ";");
                Checks.no("the first that is none", x.press(rows * columns, true));
                Checks.yes("the last", x.press(rows * columns - 1, true));
                for (int key : new int[] {-1, 24, 31, 32, 64, LEAST, GREATEST}) {
                    Checks.no("press(" + key + ", true)", x.press(key, true));
                    Checks.no("press(" + key + ", false)", x.press(key, false));
                }
                Checks.due("closed", x.count(7), 1 << rows * columns - 1);
            }
        }
    }

    private static void tickBounds() {
        Checks.sentence("n TICKS (1 .. 50)");
        KeyMatrix x = Checks.board("board 1 1;");
        Checks.due("tick(1)", x.tick(1), 0);
        Checks.due("NOW", x.count(2), 1);
        Checks.due("tick(50)", x.tick(50), 0);
        Checks.due("NOW", x.count(2), 51);
    }

    private static void tickRefused() {
        Checks.sentence("NONE, and nothing happens: no such number, no BOARD");
        KeyMatrix x = Checks.board("board 1 1;bounce 1;key 0 0 code 1;");
        x.press(0, true);
        for (int n : new int[] {0, 51, -1, 100, LEAST, GREATEST}) {
            Checks.due("tick(" + n + ")", x.tick(n), -1);
            Checks.due("NOW", x.count(2), 0);
            Checks.due("STATE", x.key(0, 3), 0);
        }
        KeyMatrix none = new KeyMatrix();
        for (int n : new int[] {0, 1, 50, 51}) {
            Checks.due("without a BOARD", none.tick(n), -1);
            Checks.due("NOW", none.count(2), 0);
        }
    }

    private static void tickCountsReports() {
        Checks.sentence("how many REPORTS came");
        KeyMatrix x = Checks.board("board 1 2;bounce 1;macro 1 2 3 4 5 6 7 8;key 0 0 play 0;key 0 1 code 1;");
        Checks.due("none", x.tick(1), 0);
        x.press(0, true);
        Checks.due("16", x.tick(50), 16);
        x.press(1, true);
        Checks.due("1", x.tick(1), 1);
        Checks.due("none more", x.tick(1), 0);
        Checks.due("so far", x.count(3), 17);
    }

    // ---- Promises 8 to 11

    private static void keyBounds() {
        Checks.sentence("key: what 0 .. 5; NONE for others");
        KeyMatrix x = Checks.board("board 2 2;bounce 3;");
        x.press(0, true);
        x.press(1, true);
        x.press(2, true);
        x.press(2, false);
        x.tick(2);
        x.press(3, true);
        int[] due = {1, 1, 1, 0, 2, Float.floatToIntBits(0.125f * 0.875f + 0.125f)};
        for (int what = 0; what < 6; what++) {
            Checks.due("key(0, " + what + ")", x.key(0, what), due[what]);
        }
        int[] ghost = {0, 1, 1, 0, 0, 0};
        for (int what = 0; what < 6; what++) {
            Checks.due("key(2, " + what + ")", x.key(2, what), ghost[what]);
        }
        Checks.due("key(0, -1)", x.key(0, -1), -1);
        Checks.due("key(0, 6)", x.key(0, 6), -1);
        for (int never : NEVER) {
            Checks.due("key(0, " + never + ")", x.key(0, never), -1);
            Checks.due("key(" + never + ", 0)", x.key(never, 0), -1);
        }
        for (int what = -1; what < 7; what++) {
            Checks.due("key(-1, ..)", x.key(-1, what), -1);
            Checks.due("key(4, ..)", x.key(4, what), -1);
        }
    }

    private static void deedBounds() {
        Checks.sentence("deed: layer NONE, 0 .. 3; what 0 .. 2; NONE for others");
        KeyMatrix x = Checks.board("board 1 2;key 0 1 code 1;key 3 1 hold 200 mod 0;key 3 0 hold 1 layer 3;key 2 1 double 9 8;"
                + "key 1 1 play 0;key 2 0 mod 7;key 1 0 toggle 3;");
        int[][] due = {{3, 1, 7, 200, 0}, {3, 0, 6, 1, 3}, {2, 1, 8, 9, 8}, {1, 1, 9, 0, -1}, {2, 0, 1, 7, -1}, {1, 0, 3, 3, -1},
            {0, 1, 0, 1, -1}, {-1, 1, 0, 1, -1}, {-1, 0, 4, -1, -1}};
        for (int[] row : due) {
            for (int what = 0; what < 3; what++) {
                Checks.due("deed(" + row[0] + ", " + row[1] + ", " + what + ")", x.deed(row[0], row[1], what), row[2 + what]);
            }
            Checks.due("deed of what -1", x.deed(row[0], row[1], -1), -1);
            Checks.due("deed of what 3", x.deed(row[0], row[1], 3), -1);
        }
        for (int layer = -1; layer < 4; layer++) {
            Checks.due("deed of key -1", x.deed(layer, -1, 0), -1);
            Checks.due("deed of key 2", x.deed(layer, 2, 0), -1);
            Checks.due("deed of key 24", x.deed(layer, 24, 0), -1);
        }
        Checks.due("deed of layer 4", x.deed(4, 1, 0), -1);
        for (int never : NEVER) {
            Checks.due("deed(" + never + ", 1, 0)", x.deed(never, 1, 0), -1);
            Checks.due("deed(0, " + never + ", 0)", x.deed(0, never, 0), -1);
            Checks.due("deed(0, 1, " + never + ")", x.deed(0, 1, never), -1);
        }
    }

    private static void doesBounds() {
        Checks.sentence("does: what 0, 1 (NONE nothing); -2 for others");
        KeyMatrix x = Checks.board("board 1 3;bounce 1;key 0 0 mod 0;key 0 1 code 1;");
        Checks.down(x, 0, 1, 2);
        Checks.does(x, 0, 1, 0);
        Checks.does(x, 1, 0, 1);
        Checks.does(x, 2, -1, -1);
        Checks.due("does(0, 2)", x.does(0, 2), -2);
        Checks.due("does(0, -1)", x.does(0, -1), -2);
        Checks.due("does(3, 0)", x.does(3, 0), -2);
        Checks.due("does(-1, 0)", x.does(-1, 0), -2);
        for (int never : NEVER) {
            Checks.due("does(0, " + never + ")", x.does(0, never), -2);
            Checks.due("does(" + never + ", 0)", x.does(never, 0), -2);
        }
    }

    private static KeyMatrix waiting() {
        KeyMatrix x = Checks.board("board 1 3;bounce 1;term 50;key 0 1 hold 1 mod 1;key 0 0 code 5;");
        Checks.down(x, 0, 1, 2);
        Checks.up(x, 0);
        return x;
    }

    private static void eventBounds() {
        Checks.sentence("EVENT i of the QUEUE: what 0 .. 2; NONE: no such ones");
        KeyMatrix x = waiting();
        int[][] due = {{1, 1, 2}, {2, 1, 3}, {0, 0, 4}};
        for (int i = 0; i < 3; i++) {
            for (int what = 0; what < 3; what++) {
                Checks.due("event(" + i + ", " + what + ")", x.event(i, what), due[i][what]);
            }
            Checks.due("event(" + i + ", -1)", x.event(i, -1), -1);
            Checks.due("event(" + i + ", 3)", x.event(i, 3), -1);
        }
        for (int what = 0; what < 3; what++) {
            Checks.due("event(3, " + what + ")", x.event(3, what), -1);
            for (int never : NEVER) {
                Checks.due("event(" + never + ", " + what + ")", x.event(never, what), -1);
            }
        }
        x.tick(50);
        for (int what = 0; what < 3; what++) {
            Checks.due("none waits: event(0, " + what + ")", x.event(0, what), -1);
        }
    }

    private static void eventHowMany() {
        Checks.sentence("how many (i NONE, whatever what is)");
        KeyMatrix x = waiting();
        for (int what : new int[] {LEAST, -2, -1, 0, 1, 2, 3, GREATEST}) {
            Checks.due("event(NONE, " + what + ")", x.event(-1, what), 3);
        }
        x.tick(50);
        Checks.due("none", x.event(-1, 0), 0);
    }

    // ---- Promises 12 to 15

    private static void reportKeepsForty() {
        Checks.sentence("the REPORT i (0 the latest; 40 are kept)");
        KeyMatrix x = Checks.board("board 1 2;bounce 1;key 0 0 code 9;key 0 1 mod 5;");
        Checks.due("none", x.report(0, 2), -1);
        x.press(1, true);
        for (int tick = 1; tick <= 90; tick++) {
            x.tick(1);
            Checks.due("the oldest that is kept", x.report(Math.min(tick, 40) - 1, 0), tick <= 40 ? 1 : tick - 39);
            Checks.due("the one ahead of it", x.report(Math.min(tick, 40), 0), -1);
            x.press(0, tick % 2 == 1);
        }
        Checks.due("REPORTS", x.count(3), 90);
        for (int i = 0; i < 40; i++) {
            Checks.due("TICK of " + i, x.report(i, 0), 90 - i);
            Checks.due("codes of " + i, x.report(i, 2), i % 2 == 0 ? 1 : 0);
        }
        Checks.report(x, 38, 52, 32, 9);
        Checks.report(x, 39, 51, 32);
    }

    private static void reportBounds() {
        Checks.sentence("report: what 0 .. 2, 3 and more: the code; NONE for others");
        KeyMatrix x = Checks.board("board 1 3;bounce 1;key 0 0 code 1;key 0 1 code 200;key 0 2 mod 7;");
        Checks.down(x, 2, 0, 1);
        int[] due = {3, 128, 2, 1, 200, -1, -1};
        for (int what = 0; what < due.length; what++) {
            Checks.due("report(0, " + what + ")", x.report(0, what), due[what]);
        }
        Checks.due("report(2, 3)", x.report(2, 3), -1);
        Checks.due("report(3, 0)", x.report(3, 0), -1);
        Checks.due("report(-1, 0)", x.report(-1, 0), -1);
        Checks.due("report(0, -1)", x.report(0, -1), -1);
        for (int never : NEVER) {
            Checks.due("report(0, " + never + ")", x.report(0, never), -1);
            Checks.due("report(" + never + ", 0)", x.report(never, 0), -1);
        }
    }

    private static void sentBounds() {
        Checks.sentence("sent: what 0, 1, 2 and more: the code; NONE for others");
        KeyMatrix x = Checks.board("board 1 3;bounce 1;key 0 0 code 1;key 0 1 code 200;key 0 2 mod 7;");
        Checks.down(x, 0, 1, 2);
        int[] due = {128, 2, 1, 200, -1, -1};
        for (int what = 0; what < due.length; what++) {
            Checks.due("sent(" + what + ")", x.sent(what), due[what]);
        }
        Checks.due("sent(-1)", x.sent(-1), -1);
        for (int never : NEVER) {
            Checks.due("sent(" + never + ")", x.sent(never), -1);
        }
    }

    private static void hostBounds() {
        Checks.sentence("host: what 0 .. 3 (NONE: none); -2 for others");
        KeyMatrix x = Checks.board("board 1 1;bounce 1;key 0 0 code 1;repeat 1 1;");
        Checks.host(x, -1, -1, 0, -1);
        x.press(0, true);
        x.tick(3);
        Checks.host(x, 1, 1, 2, 2);
        for (int never : NEVER) {
            Checks.due("host(" + never + ")", x.host(never), -2);
        }
    }

    private static void strokesBounds() {
        Checks.sentence("strokes: what 0 .. 2 (0: none, NONE: none); -2 for others");
        KeyMatrix x = Checks.board("board 1 2;bounce 1;");
        int[] none = {0, 0, -1, -2};
        for (int what = 0; what < 4; what++) {
            Checks.due("strokes(1, " + what + ")", x.strokes(1, what), none[what]);
        }
        Checks.strike(x, 1, 1);
        int[] due = {1, 1, 2, -2};
        for (int what = 0; what < 4; what++) {
            Checks.due("strokes(1, " + what + ")", x.strokes(1, what), due[what]);
            Checks.due("strokes(2, " + what + ")", x.strokes(2, what), -2);
            Checks.due("strokes(-1, " + what + ")", x.strokes(-1, what), -2);
        }
        Checks.due("strokes(1, -1)", x.strokes(1, -1), -2);
        for (int never : NEVER) {
            Checks.due("strokes(1, " + never + ")", x.strokes(1, never), -2);
            Checks.due("strokes(" + never + ", 0)", x.strokes(never, 0), -2);
        }
    }

    // ---- Promises 16 to 19

    private static void chordBounds() {
        Checks.sentence("CHORDS: how many (i NONE, whatever what is); what 0 .. 2; NONE: no such ones");
        KeyMatrix x = Checks.board("board 2 4;bounce 1;chord 7 0 code 1;chord 1 6 mod 1;chord 5 2 code 1;chord 3 4 code 9;");
        int[][] due = {{7, 0}, {1, 6}, {5, 2}, {3, 4}};
        for (int i = 0; i < 4; i++) {
            Checks.due("first of " + i, x.chord(i, 0), due[i][0]);
            Checks.due("other of " + i, x.chord(i, 1), due[i][1]);
            Checks.due("done", x.chord(i, 2), 0);
            Checks.due("chord(" + i + ", 3)", x.chord(i, 3), -1);
            Checks.due("chord(" + i + ", -1)", x.chord(i, -1), -1);
        }
        for (int what = 0; what < 3; what++) {
            Checks.due("chord(4, " + what + ")", x.chord(4, what), -1);
            for (int never : NEVER) {
                Checks.due("chord(" + never + ", " + what + ")", x.chord(never, what), -1);
                Checks.due("chord(NONE, " + never + ")", x.chord(-1, never), 4);
            }
        }
        Checks.due("chord(NONE, NONE)", x.chord(-1, -1), 4);
        Checks.down(x, 4, 3);
        Checks.due("done", x.chord(3, 2), 1);
        Checks.due("the one ahead", x.chord(2, 2), 0);
        x = Checks.board("board 1 2;");
        Checks.due("none", x.chord(-1, 0), 0);
        Checks.due("chord(0, 0)", x.chord(0, 0), -1);
    }

    private static void macroBounds() {
        Checks.sentence("MACRO i: how many codes (k NONE), else the k-th code; NONE: no such ones");
        KeyMatrix x = Checks.board("board 1 2;macro 7;macro 1 200;macro 9 8 7 6 5 4 3 2;");
        int[] many = {1, 2, 8};
        int[] last = {7, 200, 2};
        for (int i = 0; i < 3; i++) {
            Checks.due("macro(" + i + ", NONE)", x.macro(i, -1), many[i]);
            Checks.due("its last code", x.macro(i, many[i] - 1), last[i]);
            Checks.due("one behind it", x.macro(i, many[i]), -1);
            for (int never : NEVER) {
                Checks.due("macro(" + i + ", " + never + ")", x.macro(i, never), -1);
            }
        }
        for (int k = -1; k < 3; k++) {
            Checks.due("macro(3, " + k + ")", x.macro(3, k), -1);
            Checks.due("macro(NONE, " + k + ")", x.macro(-1, k), -1);
            for (int never : NEVER) {
                Checks.due("macro(" + never + ", " + k + ")", x.macro(never, k), -1);
            }
        }
        Checks.due("none is told", Checks.board("board 1 1;").macro(0, -1), -1);
    }

    private static void ghostsBounds() {
        Checks.sentence("ghosts: what 0 .. 2; NONE for others, no such set");
        for (int rows = 1; rows <= 4; rows++) {
            for (int columns = 1; columns <= 6; columns++) {
                int keys = rows * columns;
                int all = (1 << keys) - 1;
                KeyMatrix x = Checks.board("board " + rows + " " + columns + ";");
                Checks.due("none: others", x.ghosts(0, 0), 0);
                Checks.due("none: barred", x.ghosts(0, 1), 0);
                Checks.due("none: parts", x.ghosts(0, 2), rows + columns);
                Checks.due("all: others", x.ghosts(all, 0), 0);
                Checks.due("all: barred", x.ghosts(all, 1), rows > 1 && columns > 1 ? keys : 0);
                Checks.due("all: parts", x.ghosts(all, 2), 1);
                for (int what = 0; what < 3; what++) {
                    Checks.due("one more", x.ghosts(all + 1, what), -1);
                    Checks.due("that one too", x.ghosts(2 * all + 1, what), -1);
                    Checks.due("all bits", x.ghosts(-1, what), -1);
                    Checks.due("the least", x.ghosts(LEAST, what), -1);
                    Checks.due("the greatest", x.ghosts(GREATEST, what), -1);
                }
                Checks.due("what -1", x.ghosts(all, -1), -1);
                Checks.due("what 3", x.ghosts(all, 3), -1);
                Checks.due("what LEAST", x.ghosts(0, LEAST), -1);
                Checks.due("what GREATEST", x.ghosts(0, GREATEST), -1);
                Checks.due("no SWITCH is closed", x.count(7), 0);
                Checks.due("no KEY is SEEN", x.count(8), 0);
            }
        }
    }

    private static void ghostsOfNoBoard() {
        Checks.sentence("ghosts (without a BOARD)");
        KeyMatrix x = new KeyMatrix();
        for (int what = 0; what < 3; what++) {
            Checks.due("ghosts(0, " + what + ")", x.ghosts(0, what), 0);
            Checks.due("ghosts(1, " + what + ")", x.ghosts(1, what), -1);
            Checks.due("ghosts(-1, " + what + ")", x.ghosts(-1, what), -1);
        }
        Checks.due("ghosts(0, 3)", x.ghosts(0, 3), -1);
    }

    private static void ghostsParts() {
        Checks.sentence("of how many parts ROWS and COLUMNS would be by closed SWITCHES (with diodes, too)");
        for (String diodes : new String[] {"", "diodes;"}) {
            KeyMatrix x = Checks.board("board 3 3;" + diodes);
            Checks.due("three apart", x.ghosts(1 << 0 | 1 << 4 | 1 << 8, 2), 3);
            Checks.due("two in a row", x.ghosts(3, 2), 4);
            Checks.due("three corners", x.ghosts(1 | 2 | 8, 2), 3);
            Checks.due("all four", x.ghosts(1 | 2 | 8 | 16, 2), 3);
            Checks.due("five by a way", x.ghosts(1 | 8 | 16 | 128 | 256, 2), 1);
            Checks.due("others", x.ghosts(1 | 8 | 16 | 128 | 256, 0), diodes.isEmpty() ? 4 : 0);
            Checks.due("barred", x.ghosts(1 | 8 | 16 | 128 | 256, 1), diodes.isEmpty() ? 9 : 0);
            Checks.due("of three corners", x.ghosts(1 | 2 | 8, 0), diodes.isEmpty() ? 1 : 0);
            Checks.due("barred", x.ghosts(1 | 2 | 8, 1), diodes.isEmpty() ? 4 : 0);
        }
    }

    private static void aheadBounds() {
        Checks.sentence("ahead: n TICKS (1 .. 120), what 0 .. 4; NONE for others");
        KeyMatrix x = Checks.board("board 1 3;term 99;key 0 0 code 9;key 0 1 toggle 3;key 0 2 hold 1 mod 6;");
        x.press(0, true);
        x.press(1, true);
        x.press(2, true);
        int[][] due = {{1, 0, 0, 0, 1, 0}, {2, 1, 0, 1, 9, 1}, {100, 1, 0, 1, 9, 1}, {101, 2, 64, 1, 9, 0}, {120, 2, 64, 1, 9, 0}};
        for (int[] row : due) {
            for (int what = 0; what < 5; what++) {
                Checks.due("ahead(" + row[0] + ", " + what + ")", x.ahead(row[0], what), row[what + 1]);
            }
            Checks.due("what -1", x.ahead(row[0], -1), -1);
            Checks.due("what 5", x.ahead(row[0], 5), -1);
        }
        for (int n : new int[] {0, -1, 121, 122, LEAST, GREATEST}) {
            for (int what = 0; what < 5; what++) {
                Checks.due("ahead(" + n + ", " + what + ")", x.ahead(n, what), -1);
            }
        }
        for (int never : NEVER) {
            Checks.due("ahead(1, " + never + ")", x.ahead(1, never), -1);
        }
        for (int what = 0; what < 5; what++) {
            Checks.due("without a BOARD", new KeyMatrix().ahead(1, what), -1);
        }
    }

    private static void aheadOfWaiting() {
        Checks.sentence("MODS that would be SENT then, how many codes, ACTIVE LAYERS, EVENTS in the QUEUE (gone on from now)");
        KeyMatrix x = Checks.board(RICH);
        richly(x);
        int events = x.event(-1, 0);
        Checks.due("EVENTS now", events, 2);
        int[] last = new int[5];
        for (int n = 1; n <= 40; n++) {
            KeyMatrix y = Checks.board(RICH);
            richly(y);
            int before = y.count(3);
            y.tick(n);
            int[] then = {y.count(3) - before, y.sent(0), y.sent(1), y.count(4), y.event(-1, 0)};
            for (int what = 0; what < 5; what++) {
                Checks.due("ahead(" + n + ", " + what + ")", x.ahead(n, what), then[what]);
            }
            last = then;
        }
        Checks.due("none waits at last", last[4], 0);
        Checks.due("HELD at last", last[1], 8);
    }

    private static void aheadOfBarred() {
        Checks.sentence("If SWITCHES stayed as they are (BARRED ones)");
        KeyMatrix x = Checks.board("board 2 2;bounce 1;key 0 0 code 1;key 0 3 code 4;");
        x.press(0, true);
        Checks.due("not BARRED", x.ahead(1, 2), 1);
        x.press(1, true);
        x.press(2, true);
        Checks.due("BARRED", x.ahead(120, 2), 0);
        x.press(2, false);
        Checks.due("no more", x.ahead(1, 2), 1);
        x.tick(1);
        x.press(0, false);
        x.press(2, true);
        x.press(3, true);
        Checks.due("BARRED, and down", x.ahead(120, 2), 1);
    }

    private static void aheadChangesNothing() {
        Checks.sentence("If SWITCHES stayed as they are (nothing happens)");
        KeyMatrix x = Checks.board(RICH);
        richly(x);
        int[] before = told(x);
        for (int what = 0; what < 5; what++) {
            x.ahead(120, what);
            x.ghosts(63, what);
        }
        same("after it", told(x), before);
    }

    // ---- Promises 20 to 22

    /** Toggled, held, sent, repeated, unlike, and two events that wait. */
    private static void richly(KeyMatrix x) {
        x.press(0, true);
        x.press(1, true);
        x.press(2, true);
        x.tick(20);
        x.press(0, false);
        x.tick(2);
        x.press(0, true);
        x.tick(15);
        x.press(3, true);
        x.tick(2);
        x.press(4, true);
        x.tick(3);
        x.press(1, false);
        x.press(5, true);
        x.tick(1);
    }

    private static int[] told(KeyMatrix x) {
        int[] told = new int[400];
        int at = 0;
        for (int what = 0; what < 22; what++) {
            told[at++] = what == 11 || what == 12 ? 0 : x.count(what);
        }
        for (int key = 0; key < 6; key++) {
            for (int what = 0; what < 6; what++) {
                told[at++] = x.key(key, what);
            }
            for (int what = 0; what < 3; what++) {
                told[at++] = x.strokes(key, what);
                told[at++] = x.deed(-1, key, what);
            }
            told[at++] = x.does(key, 0);
            told[at++] = x.does(key, 1);
        }
        for (int i = -1; i < 4; i++) {
            for (int what = 0; what < 3; what++) {
                told[at++] = x.event(i, what);
                told[at++] = x.report(i + 1, what);
                told[at++] = x.report(i + 1, what + 3);
            }
        }
        for (int what = 0; what < 4; what++) {
            told[at++] = x.host(what);
            told[at++] = x.sent(what);
            told[at++] = x.chord(0, what);
        }
        return told;
    }

    private static void same(String what, int[] got, int[] want) {
        for (int i = 0; i < want.length; i++) {
            Checks.due(what + ", " + i, got[i], want[i]);
        }
    }

    private static void holdBounds() {
        Checks.sentence("hold: a SLOT (0 .. 2): true; false: no such one");
        KeyMatrix x = Checks.board("board 1 1;");
        for (int slot : new int[] {-1, 3, 4, 31, 32, LEAST, GREATEST}) {
            Checks.no("hold(" + slot + ")", x.hold(slot));
            Checks.due("SLOTS that hold something", x.count(12), 0);
        }
        for (int slot = 2; slot >= 0; slot--) {
            Checks.yes("hold(" + slot + ")", x.hold(slot));
            Checks.due("SLOTS that hold something", x.count(12), 3 - slot);
        }
        KeyMatrix none = new KeyMatrix();
        Checks.yes("without a BOARD", none.hold(2));
        Checks.due("SLOTS that hold something", none.count(12), 1);
        Checks.yes("restore", none.restore(2));
        Checks.due("no ROWS", none.count(0), 0);
    }

    private static void holdAnew() {
        Checks.sentence("All is held in a SLOT (one that holds something)");
        KeyMatrix x = Checks.board("board 1 1;");
        x.tick(4);
        x.hold(1);
        x.tick(5);
        Checks.yes("hold(1) anew", x.hold(1));
        Checks.due("one SLOT", x.count(12), 1);
        x.tick(6);
        Checks.yes("restore(1)", x.restore(1));
        Checks.due("NOW", x.count(2), 9);
    }

    private static void restoreBounds() {
        Checks.sentence("restore: true; false, and nothing happens: no such one, it holds nothing");
        KeyMatrix x = Checks.board("board 1 1;");
        x.hold(1);
        x.tick(7);
        for (int slot : new int[] {-1, 0, 2, 3, 32, 33, LEAST, GREATEST}) {
            Checks.no("restore(" + slot + ")", x.restore(slot));
            Checks.due("NOW", x.count(2), 7);
        }
        Checks.yes("restore(1)", x.restore(1));
        Checks.due("NOW", x.count(2), 0);
        x.tick(3);
        Checks.yes("it stays there", x.restore(1));
        Checks.due("NOW", x.count(2), 0);
        Checks.due("one SLOT", x.count(12), 1);
    }

    private static void restoreAll() {
        Checks.sentence("All but the tape and place() is as a SLOT holds it");
        KeyMatrix x = Checks.board(RICH);
        richly(x);
        int[] held = told(x);
        Checks.yes("hold(2)", x.hold(2));
        for (int key = 0; key < 6; key++) {
            x.press(key, key == 5);
            x.tick(3);
        }
        Checks.strike(x, 2, 3);
        x.tick(50);
        Checks.yes("all else now", x.count(5) != held[5] && x.event(-1, 0) == 0);
        Checks.yes("restore(2)", x.restore(2));
        same("restored", told(x), held);
    }

    private static void restoreKeepsTape() {
        Checks.sentence("All but the tape and place()");
        KeyMatrix x = Checks.board("board 1 1;");
        x.hold(0);
        Checks.fault(x, "board 1 1;s", 1, 10);
        Checks.put(x, "board 1 2");
        Checks.yes("restore(0)", x.restore(0));
        Checks.due("place()", x.place(), 10);
        Checks.due("bytes", x.count(11), 9);
        Checks.put(x, ";");
        Checks.due("read", x.read(), 0);
        Checks.due("COLUMNS", x.count(1), 2);
        // The tape is no part of what is held, either.
        Checks.put(x, "board 1 3;");
        x.hold(0);
        x.back(10);
        Checks.yes("restore(0)", x.restore(0));
        Checks.due("bytes", x.count(11), 0);
    }

    private static void restoreAfterTicks() {
        Checks.sentence("All is as a SLOT holds it (what comes then is the same, too)");
        KeyMatrix x = Checks.board(RICH);
        richly(x);
        x.hold(0);
        x.press(3, false);
        x.tick(9);
        int[] first = told(x);
        x.hold(1);
        Checks.yes("restore(0)", x.restore(0));
        x.press(3, false);
        x.tick(9);
        same("gone on from SLOT 0", told(x), first);
    }

    private static void restoreBarred() {
        Checks.sentence("All is as a SLOT holds it (SWITCHES, SEEN and BARRED)");
        KeyMatrix x = Checks.board("board 2 2;bounce 1;");
        x.press(0, true);
        x.press(1, true);
        x.press(2, true);
        x.hold(0);
        x.press(2, false);
        x.hold(1);
        x.tick(1);
        Checks.due("down", x.count(6), 3);
        int[] closed = {7, 3};
        int[] seen = {15, 3};
        int[] barred = {15, 0};
        for (int slot : new int[] {0, 1, 0}) {
            Checks.yes("restore(" + slot + ")", x.restore(slot));
            Checks.due("closed", x.count(7), closed[slot]);
            Checks.due("SEEN", x.count(8), seen[slot]);
            Checks.due("BARRED", x.count(9), barred[slot]);
            x.tick(1);
            Checks.due("down", x.count(6), slot == 0 ? 0 : 3);
        }
    }

    private static void restoreChord() {
        Checks.sentence("All is as a SLOT holds it (a CHORD that is done)");
        KeyMatrix x = Checks.board("board 1 3;bounce 1;key 0 2 code 3;chord 0 1 code 50;");
        x.hold(1);
        Checks.down(x, 0, 1);
        x.hold(0);
        Checks.up(x, 0, 1);
        Checks.down(x, 2);
        Checks.yes("restore(0)", x.restore(0));
        Checks.due("done", x.chord(0, 2), 1);
        Checks.sent(x, 0, 50);
        Checks.up(x, 1);
        Checks.does(x, 0, -1, -1);
        Checks.sent(x, 0);
        Checks.yes("restore(1)", x.restore(1));
        Checks.due("not done", x.chord(0, 2), 0);
        Checks.does(x, 1, -1, -1);
    }

    private static void restoreReports() {
        Checks.sentence("All is as a SLOT holds it (REPORTS, though 40 others came since)");
        KeyMatrix x = Checks.board("board 1 4;bounce 1;key 0 0 code 1;key 0 1 code 2;key 0 2 mod 7;key 0 3 code 77;");
        Checks.down(x, 0, 1, 2);
        Checks.up(x, 0);
        x.hold(0);
        Checks.up(x, 1);
        for (int i = 0; i < 42; i++) {
            x.press(3, i % 2 == 0);
            x.tick(1);
        }
        x.hold(1);
        for (int i = 0; i < 2; i++) {
            Checks.yes("restore(0)", x.restore(0));
            Checks.report(x, 0, 4, 128, 2);
            Checks.report(x, 1, 3, 128, 1, 2);
            Checks.report(x, 2, 2, 0, 1, 2);
            Checks.report(x, 3, 1, 0, 1);
            Checks.due("no fifth", x.report(4, 0), -1);
            Checks.host(x, 2, 2, 0, 0);
            Checks.yes("restore(1)", x.restore(1));
            Checks.report(x, 0, 47, 128);
            Checks.report(x, 1, 46, 128, 77);
            Checks.report(x, 39, 8, 128, 77);
            Checks.due("REPORTS", x.count(3), 47);
        }
    }

    private static void countBounds() {
        Checks.sentence("count: what 0 .. 21; NONE for others");
        KeyMatrix x = Checks.board("board 1 1;");
        Checks.due("count(-1)", x.count(-1), -1);
        Checks.due("count(21)", x.count(21), 5);
        Checks.due("count(22)", x.count(22), -1);
        for (int never : NEVER) {
            Checks.due("count(" + never + ")", x.count(never), -1);
        }
    }

    private static void countEach() {
        Checks.sentence("count: 0 ROWS, 1 COLUMNS, 2 NOW, .. 21 RATE");
        KeyMatrix x = Checks.board("board 4 6;six;bounce 1;term 98;chording 19;twice 39;repeat 97 18;macro 1;macro 2;macro 3;"
                + "key 0 0 layer 3;key 0 1 toggle 1;key 0 23 hold 1 mod 1;");
        x.press(0, true);
        x.press(1, true);
        x.tick(4);
        x.press(1, false);
        x.press(23, true);
        x.tick(1);
        x.press(22, true);
        x.press(17, true);
        x.hold(0);
        x.hold(2);
        Checks.put(x, "board");
        int seen = 1 | 1 << 23 | 1 << 22 | 1 << 17 | 1 << 16;
        int[] due = {4, 6, 5, 0, 11, 2, 1 | 1 << 23, 1 | 1 << 23 | 1 << 22 | 1 << 17, seen, seen ^ 1, 4, 5, 2, 0, 1, 1, 98, 19,
            39, 3, 97, 18};
        for (int what = 0; what < due.length; what++) {
            Checks.due("count(" + what + ")", x.count(what), due[what]);
        }
        Checks.due("diodes", Checks.board("board 1 1;diodes;").count(13), 1);
        Checks.due("NONE", KeyMatrix.NONE, -1);
    }

    private static void mostCalls() {
        Checks.sentence("An object is used for at most 512 calls (all of them are good)");
        KeyMatrix x = Checks.board("board 1 1;bounce 1;key 0 0 code 1;");
        // Three calls so far: one feed, one back, one read.
        for (int i = 0; i < 253; i++) {
            Checks.yes("press", x.press(0, i % 2 == 0));
            Checks.due("tick", x.tick(i < 3 ? 1 : 50), 1);
        }
        Checks.due("STROKES", x.strokes(0, 0), 127);
        Checks.due("NOW", x.count(2), 3 + 250 * 50);
        Checks.due("REPORTS", x.count(3), 253);
    }
}
