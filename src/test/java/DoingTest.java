/** Promises 10 to 14 and 16: the queue, what keys do, chords, macros, what is sent, the host. */
public final class DoingTest {
    private DoingTest() {
    }

    public static void main(String[] args) {
        layers();
        toggles();
        holdByTime();
        holdByTimeOfLaterEvents();
        holdByNextKey();
        holdOfMod();
        doubles();
        doubleTakesOnlyItsOwn();
        chords();
        chordBounds();
        chordPlays();
        macros();
        sentOrder();
        mods();
        sixAndOver();
        allKeysAndAMacro();
        reportsKept();
        latest();
        latestAfterOver();
        repeats();
        queue();
        layerOfWaitingUp();
        Checks.close();
    }

    private static void layers() {
        KeyMatrix x = Checks.board("board 1 4;bounce 1;key 0 0 layer 1;key 0 1 layer 3;key 0 2 code 5;key 1 2 code 6;"
                + "key 1 3 code 8;key 0 3 code 7;key 3 2 nothing;");
        Checks.due("by layer 0", x.deed(-1, 2, 1), 5);
        Checks.down(x, 0);
        Checks.does(x, 0, 2, 1);
        Checks.due("layers 0, 1", x.count(4), 3);
        Checks.due("by layer 1", x.deed(-1, 2, 1), 6);
        Checks.down(x, 1);
        Checks.due("layers 0, 1, 3", x.count(4), 11);
        Checks.due("nothing on layer 3", x.deed(-1, 2, 0), 4);
        Checks.due("falls through to 1", x.deed(-1, 3, 1), 8);
        Checks.down(x, 3);
        Checks.does(x, 3, 0, 8);
        Checks.up(x, 0, 1);
        Checks.due("layer 0", x.count(4), 1);
        Checks.does(x, 3, 0, 8);
        Checks.sent(x, 0, 8);
        Checks.up(x, 3);
        Checks.does(x, 3, -1, -1);
        Checks.due("does(4, 0)", x.does(4, 0), -2);
        Checks.due("does(-1, 0)", x.does(-1, 0), -2);
        Checks.due("does(0, 2)", x.does(0, 2), -2);
        Checks.due("does(0, -1)", x.does(0, -1), -2);
    }

    private static void toggles() {
        KeyMatrix x = Checks.board("board 1 2;bounce 1;key 0 0 toggle 2;key 0 1 toggle 3;key 3 0 below;");
        Checks.strike(x, 0, 1);
        Checks.due("toggled", x.count(5), 4);
        Checks.due("active", x.count(4), 5);
        Checks.down(x, 1);
        Checks.does(x, 1, -1, -1);
        Checks.due("both", x.count(5), 12);
        Checks.strike(x, 0, 1);
        Checks.due("one no more", x.count(5), 8);
        Checks.due("no report", x.count(3), 0);
    }

    private static final String HOLD = "board 1 3;bounce 1;term 5;key 0 0 hold 9 layer 1;key 0 1 code 5;key 1 1 code 6;key 0 2 code 7;";

    private static void holdByTime() {
        KeyMatrix x = Checks.board(HOLD);
        x.press(0, true);
        Checks.due("waits", x.tick(5), 0);
        Checks.due("one event", x.event(-1, 0), 1);
        Checks.due("layer 0", x.count(4), 1);
        x.tick(1);
        Checks.due("no event", x.event(-1, 0), 0);
        Checks.due("held", x.count(4), 3);
        Checks.does(x, 0, 2, 1);
        Checks.up(x, 0);
        Checks.due("no more", x.count(4), 1);
        Checks.strike(x, 0, 4);
        Checks.report(x, 1, 12, 0, 9);
        Checks.report(x, 0, 12, 0);
    }

    private static void holdByTimeOfLaterEvents() {
        // UP at the very end of TERM: held, and at once no more, with no report.
        KeyMatrix x = Checks.board(HOLD);
        Checks.strike(x, 0, 5);
        Checks.due("no report", x.count(3), 0);
        Checks.due("layer 0", x.count(4), 1);
        // Another key's DOWN at TERM comes by the held layer.
        x = Checks.board(HOLD);
        x.press(0, true);
        x.tick(5);
        x.press(1, true);
        x.tick(1);
        Checks.sent(x, 0, 6);
    }

    private static void holdByNextKey() {
        KeyMatrix x = Checks.board(HOLD);
        Checks.down(x, 2);
        Checks.down(x, 0);
        // UP of a key whose DOWN is not among them says nothing.
        Checks.up(x, 2);
        Checks.due("waits", x.event(-1, 0), 2);
        Checks.sent(x, 0, 7);
        Checks.down(x, 1);
        Checks.due("still waits", x.event(-1, 0), 3);
        Checks.up(x, 1);
        Checks.due("worked off", x.event(-1, 0), 0);
        Checks.does(x, 0, 2, 1);
        Checks.report(x, 2, 5, 0);
        Checks.report(x, 1, 5, 0, 6);
        Checks.report(x, 0, 5, 0);
        // Tapped, although another went down meanwhile.
        x = Checks.board(HOLD);
        Checks.down(x, 0, 1);
        Checks.up(x, 0);
        Checks.sent(x, 0, 5);
        Checks.report(x, 2, 3, 0, 9);
        Checks.report(x, 1, 3, 0, 9, 5);
        Checks.report(x, 0, 3, 0, 5);
    }

    private static void holdOfMod() {
        KeyMatrix x = Checks.board("board 1 2;bounce 1;term 3;key 0 0 hold 9 mod 7;key 0 1 code 5;");
        x.press(0, true);
        x.tick(4);
        Checks.does(x, 0, 1, 7);
        Checks.sent(x, 128);
        Checks.report(x, 0, 4, 128);
        Checks.up(x, 0);
        Checks.report(x, 0, 5, 0);
        Checks.strike(x, 0, 1);
        Checks.report(x, 1, 7, 0, 9);
    }

    private static final String DOUBLE = "board 1 3;bounce 1;twice 5;key 0 0 double 3 4;key 0 1 code 8;key 0 2 code 7;";

    private static void doubles() {
        KeyMatrix x = Checks.board(DOUBLE);
        x.press(0, true);
        Checks.due("waits", x.tick(5), 0);
        Checks.due("once", x.tick(1), 1);
        Checks.does(x, 0, 0, 3);
        Checks.up(x, 0);
        Checks.strike(x, 0, 1);
        Checks.due("waits after UP", x.event(-1, 0), 2);
        Checks.down(x, 0);
        Checks.does(x, 0, 0, 4);
        Checks.due("all gone", x.event(-1, 0), 0);
        Checks.report(x, 0, 10, 0, 4);
        Checks.up(x, 0);
        Checks.does(x, 0, -1, -1);
        // The second DOWN at TWICE is too late: once, and again a first.
        x = Checks.board(DOUBLE);
        Checks.strike(x, 0, 1);
        x.tick(3);
        x.press(0, true);
        Checks.due("two reports", x.tick(1), 2);
        Checks.due("and one waits", x.event(-1, 0), 1);
        Checks.due("from now on", x.event(0, 2), 6);
        // Another key's DOWN makes it once at once.
        x = Checks.board(DOUBLE);
        Checks.down(x, 0, 1);
        Checks.sent(x, 0, 3, 8);
        // Another key's UP does not.
        x = Checks.board(DOUBLE);
        Checks.down(x, 1);
        Checks.down(x, 0);
        Checks.up(x, 1);
        Checks.due("waits", x.event(-1, 0), 2);
    }

    private static void doubleTakesOnlyItsOwn() {
        KeyMatrix x = Checks.board(DOUBLE);
        Checks.down(x, 2);
        x.press(0, true);
        x.tick(1);
        x.press(0, false);
        x.press(2, false);
        x.tick(1);
        Checks.due("three wait", x.event(-1, 0), 3);
        x.press(0, true);
        Checks.due("twice, and UP of the other", x.tick(1), 2);
        Checks.report(x, 1, 4, 0, 7, 4);
        Checks.report(x, 0, 4, 0, 4);
        Checks.does(x, 0, 0, 4);
        Checks.does(x, 2, -1, -1);
    }

    private static final String CHORD = "board 1 4;bounce 1;chording 4;key 0 0 code 1;key 0 1 code 2;key 0 2 code 3;chord 1 0 code 50;";

    private static void chords() {
        KeyMatrix x = Checks.board(CHORD);
        Checks.due("how many", x.chord(-1, 77), 1);
        Checks.due("first", x.chord(0, 0), 1);
        Checks.due("other", x.chord(0, 1), 0);
        Checks.due("chord(0, 3)", x.chord(0, 3), -1);
        Checks.due("chord(0, -1)", x.chord(0, -1), -1);
        Checks.due("chord(1, 0)", x.chord(1, 0), -1);
        Checks.due("chord(-2, 0)", x.chord(-2, 0), -1);
        Checks.down(x, 0);
        Checks.due("not done", x.chord(0, 2), 0);
        x.tick(2);
        Checks.due("waits", x.event(-1, 0), 1);
        Checks.down(x, 1);
        Checks.due("done", x.chord(0, 2), 1);
        Checks.does(x, 0, 0, 50);
        Checks.does(x, 1, 0, 50);
        Checks.report(x, 0, 4, 0, 50);
        Checks.due("one report", x.count(3), 1);
        Checks.up(x, 1);
        Checks.due("no more", x.chord(0, 2), 0);
        Checks.does(x, 0, -1, -1);
        // The one that was let go is struck again while the other is still down: alone.
        x.press(1, true);
        x.tick(4);
        Checks.due("waits for the other", x.event(-1, 0), 1);
        x.tick(1);
        Checks.does(x, 1, 0, 2);
        Checks.up(x, 0);
        Checks.does(x, 1, 0, 2);
        Checks.sent(x, 0, 2);
        Checks.due("not done", x.chord(0, 2), 0);
    }

    private static void chordBounds() {
        // DOWN of the other at CHORDING is too late; the second waits for the first in turn, in vain.
        KeyMatrix x = Checks.board(CHORD);
        x.press(0, true);
        x.tick(4);
        x.press(1, true);
        Checks.due("the first alone", x.tick(1), 1);
        Checks.sent(x, 0, 1);
        Checks.due("the second waits", x.event(0, 0), 1);
        x.tick(3);
        Checks.sent(x, 0, 1);
        x.tick(1);
        Checks.sent(x, 0, 1, 2);
        // Another event between them: alone.
        x = Checks.board(CHORD);
        Checks.down(x, 0);
        Checks.down(x, 2);
        Checks.sent(x, 0, 1, 3);
        // UP of itself as well.
        x = Checks.board(CHORD);
        Checks.strike(x, 0, 1);
        Checks.report(x, 1, 2, 0, 1);
        Checks.report(x, 0, 2, 0);
        // Both in one tick.
        x = Checks.board(CHORD);
        x.press(1, true);
        x.press(0, true);
        Checks.due("together", x.tick(1), 1);
        Checks.sent(x, 0, 50);
        // A key of a chord that is told a hold waits for both.
        x = Checks.board("board 1 2;bounce 1;chording 2;term 5;key 0 0 hold 9 mod 1;chord 0 1 mod 0;");
        x.press(0, true);
        x.tick(5);
        Checks.due("waits", x.event(-1, 0), 1);
        x.tick(1);
        Checks.sent(x, 2);
        Checks.down(x, 1);
        Checks.due("no chord any more", x.event(-1, 0), 1);
    }

    private static void chordPlays() {
        KeyMatrix x = Checks.board("board 1 3;bounce 1;macro 7 8;key 0 2 code 7;chord 0 1 play 0;");
        x.press(0, true);
        x.press(1, true);
        Checks.due("four reports", x.tick(1), 4);
        Checks.does(x, 0, -1, -1);
        Checks.does(x, 1, -1, -1);
        Checks.due("done no more", x.chord(0, 2), 0);
        x = Checks.board("board 1 2;bounce 1;chord 0 1 mod 3;");
        x.press(0, true);
        x.press(1, true);
        x.tick(1);
        Checks.sent(x, 8);
        Checks.does(x, 1, 1, 3);
    }

    private static void macros() {
        KeyMatrix x = Checks.board("board 1 4;bounce 1;macro 5 5 6;key 0 0 play 0;key 0 1 code 5;key 0 2 mod 1;key 0 3 play 3;");
        Checks.down(x, 2);
        x.press(0, true);
        Checks.due("each code comes and goes", x.tick(1), 6);
        Checks.report(x, 5, 2, 2, 5);
        Checks.report(x, 4, 2, 2);
        Checks.report(x, 3, 2, 2, 5);
        Checks.report(x, 1, 2, 2, 6);
        Checks.report(x, 0, 2, 2);
        Checks.does(x, 0, -1, -1);
        Checks.up(x, 0);
        Checks.down(x, 1);
        x.press(0, true);
        Checks.due("a code that is sent anyway makes none", x.tick(1), 2);
        Checks.report(x, 1, 5, 2, 5, 6);
        Checks.report(x, 0, 5, 2, 5);
        x.press(3, true);
        Checks.due("a macro that is not told", x.tick(1), 0);
        Checks.due("its event went", x.event(-1, 0), 0);
    }

    private static void sentOrder() {
        KeyMatrix x = Checks.board("board 1 4;bounce 1;key 0 0 code 30;key 0 1 code 20;key 0 2 code 30;key 0 3 code 10;");
        Checks.down(x, 3, 0, 1, 2);
        Checks.sent(x, 0, 10, 30, 20);
        Checks.due("the second 30 is no report", x.count(3), 3);
        Checks.up(x, 0);
        Checks.sent(x, 0, 10, 20, 30);
        Checks.report(x, 0, 5, 0, 10, 20, 30);
        Checks.up(x, 3);
        Checks.sent(x, 0, 20, 30);
        Checks.due("count(3)", x.count(3), 5);
    }

    private static void mods() {
        KeyMatrix x = Checks.board("board 1 3;bounce 1;key 0 0 mod 0;key 0 1 mod 7;key 0 2 mod 0;");
        Checks.down(x, 0, 1, 2);
        Checks.sent(x, 129);
        Checks.does(x, 1, 1, 7);
        Checks.up(x, 0);
        Checks.sent(x, 129);
        Checks.up(x, 2);
        Checks.sent(x, 128);
        Checks.due("count(3)", x.count(3), 3);
    }

    private static final String SEVEN = "bounce 1;key 0 0 code 1;key 0 1 code 2;key 0 2 code 3;key 0 3 code 4;key 0 4 code 5;"
            + "key 0 5 code 6;key 0 6 code 7;key 0 7 code 8;key 0 8 mod 2;";

    private static void sixAndOver() {
        KeyMatrix x = Checks.board("board 2 5;diodes;six;" + SEVEN);
        Checks.down(x, 0, 1, 2, 3, 4, 5);
        Checks.report(x, 0, 6, 0, 1, 2, 3, 4, 5, 6);
        Checks.down(x, 6);
        Checks.due("over", x.report(0, 2), -2);
        Checks.due("no codes", x.report(0, 3), -1);
        Checks.sent(x, 0, 1, 2, 3, 4, 5, 6, 7);
        x.press(7, true);
        Checks.due("alike", x.tick(1), 0);
        x.press(8, true);
        Checks.due("other mods", x.tick(1), 1);
        Checks.due("over", x.report(0, 2), -2);
        Checks.due("mods", x.report(0, 1), 4);
        Checks.up(x, 0);
        Checks.due("still over", x.count(3), 8);
        Checks.up(x, 1);
        Checks.report(x, 0, 11, 4, 3, 4, 5, 6, 7, 8);
        x = Checks.board("board 2 5;diodes;" + SEVEN);
        Checks.down(x, 0, 1, 2, 3, 4, 5, 6);
        Checks.report(x, 0, 7, 0, 1, 2, 3, 4, 5, 6, 7);
    }

    private static void allKeysAndAMacro() {
        StringBuilder text = new StringBuilder("board 4 6;diodes;bounce 1;macro 200 199;key 0 23 play 0;");
        int[] codes = new int[24];
        for (int key = 0; key < 23; key++) {
            codes[key] = key + 100;
            text.append("key 0 " + key + " code " + codes[key] + ";");
        }
        KeyMatrix x = Checks.board(text.toString());
        for (int key = 0; key < 24; key++) {
            x.press(key, true);
        }
        Checks.due("a report each, and four of the macro", x.tick(1), 27);
        codes[23] = 199;
        Checks.report(x, 1, 1, 0, codes);
        codes[23] = 200;
        Checks.report(x, 3, 1, 0, codes);
        Checks.due("all the codes", x.sent(1), 23);
    }

    // Promise 12
    private static void reportsKept() {
        KeyMatrix x = Checks.board("board 1 1;bounce 1;key 0 0 code 1;");
        Checks.due("none yet", x.report(0, 0), -1);
        for (int i = 1; i <= 40; i++) {
            x.press(0, i % 2 == 1);
            x.tick(1);
            Checks.due("the first after " + i, x.report(i - 1, 0), 1);
            Checks.due("none before", x.report(i, 0), -1);
        }
        x.press(0, true);
        x.tick(1);
        Checks.due("the oldest kept", x.report(39, 0), 2);
        Checks.due("no 41st", x.report(40, 0), -1);
        Checks.due("how many came", x.count(3), 41);
        Checks.report(x, 0, 41, 0, 1);
        Checks.report(x, 1, 40, 0);
        Checks.due("report(-1, 0)", x.report(-1, 0), -1);
        Checks.due("report of the greatest", x.report(Integer.MAX_VALUE, 2), -1);
        Checks.due("the greatest what", x.report(0, Integer.MAX_VALUE), -1);
    }

    // Promise 14
    private static void latest() {
        KeyMatrix x = Checks.board("board 1 4;bounce 1;key 0 0 code 1;key 0 1 code 2;key 0 2 mod 0;key 0 3 code 3;");
        Checks.host(x, -1, -1, 0, -1);
        Checks.down(x, 0);
        Checks.host(x, 1, 1, 0, 0);
        Checks.down(x, 2);
        Checks.host(x, 1, 1, 0, 0);
        Checks.down(x, 1);
        Checks.host(x, 2, 3, 0, 0);
        Checks.up(x, 0);
        Checks.host(x, 2, 3, 0, 0);
        Checks.down(x, 0);
        Checks.host(x, 1, 5, 0, 0);
        Checks.up(x, 0);
        Checks.host(x, -1, -1, 0, -1);
        Checks.down(x, 3);
        Checks.host(x, 3, 7, 0, 0);
    }

    private static void latestAfterOver() {
        KeyMatrix x = Checks.board("board 2 5;diodes;six;" + SEVEN);
        Checks.down(x, 0, 1, 2, 3, 4, 5);
        Checks.host(x, 6, 6, 0, 0);
        Checks.down(x, 6);
        Checks.host(x, -1, -1, 0, -1);
        Checks.up(x, 0);
        Checks.host(x, 7, 8, 0, 0);
        Checks.down(x, 0);
        Checks.up(x, 6);
        // All six are new behind one that is over: the last of them.
        Checks.host(x, 1, 10, 0, 0);
    }

    private static void repeats() {
        KeyMatrix x = Checks.board("board 1 2;bounce 1;repeat 4 3;key 0 0 code 1;key 0 1 code 2;");
        x.press(0, true);
        x.tick(4);
        Checks.host(x, 1, 1, 0, 0);
        x.tick(1);
        Checks.host(x, 1, 1, 1, 1);
        x.tick(2);
        Checks.host(x, 1, 1, 1, 1);
        x.tick(1);
        Checks.host(x, 1, 1, 2, 2);
        x.tick(6);
        Checks.host(x, 1, 1, 4, 4);
        Checks.down(x, 1);
        Checks.host(x, 2, 15, 4, 0);
        x.tick(4);
        Checks.host(x, 2, 15, 5, 1);
        Checks.up(x, 1);
        Checks.host(x, -1, -1, 5, -1);
        x.tick(50);
        Checks.host(x, -1, -1, 5, -1);
        x = Checks.board("board 1 1;bounce 1;repeat 1 1;key 0 0 code 1;");
        x.press(0, true);
        x.tick(10);
        Checks.host(x, 1, 1, 9, 9);
    }

    // Promise 11
    private static void queue() {
        KeyMatrix x = Checks.board(HOLD);
        Checks.down(x, 0, 1);
        Checks.due("how many", x.event(-1, 99), 2);
        int[][] events = {{0, 1, 1}, {1, 1, 2}};
        for (int i = 0; i < 2; i++) {
            for (int what = 0; what < 3; what++) {
                Checks.due("event(" + i + ", " + what + ")", x.event(i, what), events[i][what]);
            }
        }
        Checks.due("event(0, 3)", x.event(0, 3), -1);
        Checks.due("event(0, -1)", x.event(0, -1), -1);
        Checks.due("event(2, 0)", x.event(2, 0), -1);
        Checks.due("event(-2, 0)", x.event(-2, 0), -1);
        Checks.due("events so far", x.count(10), 2);
        // In one tick they come by numbers.
        x = Checks.board("board 1 4;bounce 1;term 9;key 0 1 hold 1 mod 1;");
        x.press(3, true);
        x.press(2, true);
        x.press(1, true);
        x.tick(1);
        Checks.due("first", x.event(0, 0), 1);
        Checks.due("second", x.event(1, 0), 2);
        Checks.due("third", x.event(2, 0), 3);
        Checks.up(x, 1);
        Checks.due("none", x.event(-1, 0), 0);
    }

    private static void layerOfWaitingUp() {
        // A layer's key is up before its UP is worked off: "some KEY that is down holds" no longer.
        KeyMatrix x = Checks.board("board 1 2;bounce 1;term 9;key 0 0 layer 1;key 1 1 hold 3 mod 1;key 0 1 code 4;");
        Checks.down(x, 0, 1);
        Checks.due("waits", x.event(-1, 0), 1);
        Checks.up(x, 0);
        Checks.due("layer 0 alone", x.count(4), 1);
        Checks.sent(x, 0, 4);
    }
}
