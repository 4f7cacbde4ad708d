/** Promises 19 to 22: told on ahead, held, gone on from, counted; and how much room the calls take. */
public final class SlotTest {
    private static final String TEXT = "board 2 2;diodes;bounce 2;term 6;repeat 3 2;macro 8;key 0 0 hold 9 layer 1;key 0 1 code 5;"
            + "key 1 1 code 6;key 0 2 toggle 2;key 0 3 mod 4;";

    private SlotTest() {
    }

    public static void main(String[] args) {
        ahead();
        aheadChangesNothing();
        slots();
        slotsKeepAll();
        restoreKeepsTape();
        counts();
        takesNoRoom();
        Checks.close();
    }

    // Promise 19
    private static void ahead() {
        KeyMatrix x = Checks.board(TEXT);
        x.press(0, true);
        x.press(3, true);
        int[][] due = {{1, 0, 0, 0, 1, 0}, {2, 0, 0, 0, 1, 2}, {7, 0, 0, 0, 1, 2}, {8, 1, 16, 0, 3, 0}, {120, 1, 16, 0, 3, 0}};
        for (int[] row : due) {
            for (int what = 0; what < 5; what++) {
                Checks.due("ahead(" + row[0] + ", " + what + ")", x.ahead(row[0], what), row[1 + what]);
            }
        }
        x.tick(50);
        x.press(1, true);
        x.press(2, true);
        Checks.due("one report more", x.ahead(2, 0), 1);
        Checks.due("one code", x.ahead(2, 2), 1);
        Checks.due("toggled", x.ahead(2, 3), 7);
        Checks.due("ahead(0, 0)", x.ahead(0, 0), -1);
        Checks.due("ahead(121, 0)", x.ahead(121, 0), -1);
        Checks.due("ahead(-1, 0)", x.ahead(-1, 0), -1);
        Checks.due("ahead(1, 5)", x.ahead(1, 5), -1);
        Checks.due("ahead(1, -1)", x.ahead(1, -1), -1);
    }

    private static int[] told(KeyMatrix x) {
        int[] told = new int[120];
        int at = 0;
        for (int what = 0; what < 22; what++) {
            told[at++] = what == 11 || what == 12 ? 0 : x.count(what);
        }
        for (int key = 0; key < 4; key++) {
            for (int what = 0; what < 6; what++) {
                told[at++] = x.key(key, what);
            }
            for (int what = 0; what < 3; what++) {
                told[at++] = x.strokes(key, what);
            }
            told[at++] = x.does(key, 0);
            told[at++] = x.does(key, 1);
            told[at++] = x.deed(-1, key, 0);
        }
        for (int what = 0; what < 4; what++) {
            told[at++] = x.host(what);
            told[at++] = x.sent(what);
            told[at++] = x.report(0, what);
            told[at++] = x.report(1, what);
            told[at++] = x.event(0, what);
            told[at++] = x.event(1, what);
        }
        told[at++] = x.event(-1, 0);
        return told;
    }

    private static void same(String what, int[] got, int[] want) {
        for (int i = 0; i < want.length; i++) {
            Checks.due(what + " " + i, got[i], want[i]);
        }
    }

    private static void aheadChangesNothing() {
        KeyMatrix x = Checks.board(TEXT);
        x.press(1, true);
        x.tick(9);
        x.press(0, true);
        x.tick(1);
        int[] before = told(x);
        x.ahead(120, 0);
        x.ghosts(7, 0);
        same("after ahead", told(x), before);
    }

    // Promises 20 and 21
    private static void slots() {
        KeyMatrix x = Checks.board(TEXT);
        Checks.no("hold(3)", x.hold(3));
        Checks.no("hold(-1)", x.hold(-1));
        Checks.no("hold of the greatest", x.hold(Integer.MAX_VALUE));
        Checks.no("restore(0)", x.restore(0));
        Checks.no("restore(3)", x.restore(3));
        Checks.no("restore(-1)", x.restore(-1));
        Checks.due("no slot", x.count(12), 0);
        Checks.yes("hold(0)", x.hold(0));
        x.tick(1);
        Checks.yes("hold(2)", x.hold(2));
        x.tick(1);
        Checks.yes("hold(2) anew", x.hold(2));
        Checks.due("two slots", x.count(12), 2);
        Checks.no("restore(1)", x.restore(1));
        Checks.due("NOW", x.count(2), 2);
        Checks.yes("restore(0)", x.restore(0));
        Checks.due("NOW of slot 0", x.count(2), 0);
        Checks.due("still two slots", x.count(12), 2);
        x.tick(7);
        Checks.yes("restore(0) again", x.restore(0));
        Checks.due("NOW of slot 0", x.count(2), 0);
        Checks.yes("restore(2)", x.restore(2));
        Checks.due("NOW of slot 2", x.count(2), 2);
    }

    private static void slotsKeepAll() {
        KeyMatrix x = Checks.board(TEXT);
        x.press(1, true);
        x.tick(9);
        x.press(2, true);
        x.tick(2);
        x.press(0, true);
        x.press(3, true);
        x.tick(3);
        int[] first = told(x);
        x.hold(1);
        x.press(1, false);
        x.press(2, false);
        x.press(3, false);
        x.tick(9);
        int[] second = told(x);
        x.hold(0);
        x.press(0, false);
        x.press(1, true);
        x.tick(30);
        x.restore(1);
        same("slot 1", told(x), first);
        x.press(1, false);
        x.press(2, false);
        x.press(3, false);
        x.tick(9);
        same("gone on from slot 1", told(x), second);
        x.restore(1);
        x.restore(0);
        same("slot 0", told(x), second);
    }

    private static void restoreKeepsTape() {
        KeyMatrix x = Checks.board(TEXT);
        x.hold(0);
        Checks.fault(x, "board 1", 1, 7);
        Checks.put(x, "board 1 1");
        Checks.yes("restore", x.restore(0));
        Checks.due("the tape stays", x.count(11), 9);
        Checks.due("the place stays", x.place(), 7);
        Checks.put(x, ";");
        Checks.due("read", x.read(), 0);
        Checks.due("one key", x.count(1), 1);
        Checks.due("no slot", x.count(12), 0);
        Checks.yes("hold without a board", new KeyMatrix().hold(0));
    }

    // Promise 22
    private static void counts() {
        KeyMatrix x = Checks.board(TEXT);
        for (int key = 0; key < 4; key++) {
            x.press(key, true);
        }
        x.tick(3);
        x.press(3, false);
        x.hold(1);
        Checks.put(x, "abc");
        int[] due = {2, 2, 3, 0, 1, 0, 15, 7, 7, 0, 4, 3, 1, 1, 0, 2, 6, 3, 6, 1, 3, 2};
        for (int what = 0; what < due.length; what++) {
            Checks.due("count(" + what + ")", x.count(what), due[what]);
        }
        Checks.due("count(22)", x.count(22), -1);
        Checks.due("count(-1)", x.count(-1), -1);
        Checks.due("count of the least", x.count(Integer.MIN_VALUE), -1);
        Checks.due("NONE", KeyMatrix.NONE, -1);
    }

    private static void useAll(KeyMatrix x) {
        x.read();
        for (int i = 0; i < 60; i++) {
            x.press(i % 4, i % 8 < 4);
            x.tick(1 + i % 50);
            x.ahead(120, i % 5);
            x.ghosts(i % 16, i % 3);
            x.hold(i % 3);
            x.restore((i + 1) % 3);
            x.sent(i % 9);
            x.report(i % 3, i % 5);
            x.count(i % 23);
        }
        x.feed(0, 0, 0, 0, 0);
        x.read();
    }

    private static long allocated() {
        return ((com.sun.management.ThreadMXBean) java.lang.management.ManagementFactory.getThreadMXBean())
                .getCurrentThreadAllocatedBytes();
    }

    // One room holds all that a run makes: the constructor makes little, the calls make nothing.
    private static void takesNoRoom() {
        // Once beforehand, so that the machine has loaded what it needs.
        KeyMatrix first = new KeyMatrix();
        Checks.put(first, TEXT);
        useAll(first);
        allocated();
        long start = allocated();
        KeyMatrix x = new KeyMatrix();
        long made = allocated();
        Checks.put(x, TEXT);
        long put = allocated();
        useAll(x);
        long end = allocated();
        Checks.yes("an object takes " + (made - start) + " bytes", made - start < 200_000);
        Checks.yes("calls make " + (end - put) + " bytes", end - put < 2_000);
    }
}
