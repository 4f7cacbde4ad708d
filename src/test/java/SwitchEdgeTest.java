/** Part II of the document, its sentences on switches, ticks, steadiness and strokes, where they name a bound. */
public final class SwitchEdgeTest {
    private SwitchEdgeTest() {
    }

    public static void main(String[] args) {
        openAtFirst();
        throughHoweverMany();
        oneSwitchFewer();
        seenWithDiodes();
        fourCorners();
        anotherRowAndColumn();
        barredFarApart();
        neverBarredWithDiodes();
        nowAtFirst();
        bounceTimes();
        bounceBroken();
        bounceOfUp();
        barredIsNever();
        barredKeepsState();
        seenButOpenComesDown();
        eventsByNumbers();
        manyEventsWait();
        steadyAtFirst();
        steadyTimesThenMore();
        steadyIsFull();
        steadyIsTiny();
        strokesWhenEventsCame();
        longestOfAll();
        latestEventOfEither();
        Checks.close();
    }

    private static void press(KeyMatrix x, int... keys) {
        for (int key : keys) {
            Checks.yes("press(" + key + ", true)", x.press(key, true));
        }
    }

    private static void openAtFirst() {
        Checks.sentence("A SWITCH of each KEY (at first all are open); STATE of a KEY: down or up (up)");
        KeyMatrix x = Checks.board("board 4 6;");
        for (int key = 0; key < 24; key++) {
            for (int what = 0; what < 5; what++) {
                Checks.due("key(" + key + ", " + what + ")", x.key(key, what), 0);
            }
        }
        x.tick(50);
        Checks.due("KEYS down", x.count(6), 0);
        Checks.due("EVENTS", x.count(10), 0);
    }

    private static void throughHoweverMany() {
        Checks.sentence("a KEY is SEEN if its ROW and its COLUMN do, through however many");
        KeyMatrix x = Checks.board("board 4 6;");
        // From row 0 to column 3: the longest way that four rows leave.
        press(x, 0, 6, 7, 13, 14, 20, 21);
        Checks.due("key 3 is open", x.key(3, 0), 0);
        Checks.due("key 3 is seen", x.key(3, 1), 1);
        Checks.due("key 4 is not", x.key(4, 1), 0);
        Checks.due("all of four columns are", x.count(8), 0x3CF3CF);
        press(x, 16, 11);
        Checks.due("all are", x.count(8), 0xFFFFFF);
    }

    private static void oneSwitchFewer() {
        Checks.sentence("ROWS and COLUMNS hang together by closed SWITCHES (and by no others)");
        int[] way = {0, 6, 7, 13, 14, 20, 21};
        for (int left : way) {
            KeyMatrix x = Checks.board("board 4 6;");
            press(x, way);
            x.press(left, false);
            Checks.due("without " + left + " key 3 is seen", x.key(3, 1), 0);
            Checks.due("without " + left + " it is seen itself", x.key(left, 1), 0);
        }
    }

    private static void seenWithDiodes() {
        Checks.sentence("with diodes if its SWITCH is closed");
        KeyMatrix x = Checks.board("board 2 2;diodes;");
        press(x, 0, 1, 2);
        Checks.due("the open one", x.key(3, 1), 0);
        Checks.due("the closed ones", x.count(8), 7);
        x.press(0, false);
        Checks.due("one fewer", x.count(8), 6);
    }

    private static void fourCorners() {
        Checks.sentence("BARRED: of the four KEYS where they cross all are SEEN");
        KeyMatrix x = Checks.board("board 2 2;");
        press(x, 0);
        Checks.due("by one", x.count(9), 0);
        press(x, 3);
        Checks.due("by two apart", x.count(9), 0);
        press(x, 1);
        Checks.due("by three", x.count(9), 15);
        Checks.due("the open one, too", x.key(2, 2), 1);
        press(x, 2);
        Checks.due("by four", x.count(9), 15);
        x = Checks.board("board 2 2;");
        press(x, 0, 1);
        Checks.due("by two of a row", x.count(9), 0);
        x = Checks.board("board 2 2;");
        press(x, 0, 2);
        Checks.due("by two of a column", x.count(9), 0);
    }

    private static void anotherRowAndColumn() {
        Checks.sentence("BARRED: for which there are another ROW and another COLUMN");
        for (int keys = 1; keys <= 6; keys++) {
            KeyMatrix row = Checks.board("board 1 " + keys + ";bounce 1;");
            KeyMatrix column = Checks.board("board " + Math.min(keys, 4) + " 1;bounce 1;");
            for (int key = 0; key < keys; key++) {
                row.press(key, true);
                column.press(key, true);
            }
            Checks.due("a row of " + keys, row.count(9), 0);
            Checks.due("a column of " + keys, column.count(9), 0);
            row.tick(1);
            column.tick(1);
            Checks.due("all down", row.count(6), (1 << keys) - 1);
            Checks.due("all down", column.count(6), (1 << Math.min(keys, 4)) - 1);
        }
    }

    private static void barredFarApart() {
        Checks.sentence("BARRED: a KEY in a ROW and a COLUMN (only those where they cross)");
        KeyMatrix x = Checks.board("board 4 6;");
        press(x, 0, 5, 18);
        Checks.due("the corners", x.count(9), 1 | 1 << 5 | 1 << 18 | 1 << 23);
        Checks.due("no others are seen", x.count(8), 1 | 1 << 5 | 1 << 18 | 1 << 23);
        // Another row with a column of its own is no part of it.
        press(x, 8);
        Checks.due("key 8 is seen", x.key(8, 1), 1);
        Checks.due("and not barred", x.key(8, 2), 0);
    }

    private static void neverBarredWithDiodes() {
        Checks.sentence("BARRED (without diodes)");
        KeyMatrix x = Checks.board("board 4 6;diodes;bounce 1;");
        for (int key = 0; key < 24; key++) {
            x.press(key, true);
        }
        Checks.due("barred", x.count(9), 0);
        Checks.due("key(0, 2)", x.key(0, 2), 0);
        x.tick(1);
        Checks.due("down", x.count(6), 0xFFFFFF);
    }

    private static void nowAtFirst() {
        Checks.sentence("A TICK: NOW (at first 0) is one more");
        KeyMatrix x = Checks.board("board 1 1;bounce 1;");
        Checks.due("NOW", x.count(2), 0);
        x.press(0, true);
        x.tick(1);
        Checks.due("NOW", x.count(2), 1);
        Checks.due("the first EVENT", x.strokes(0, 2), 1);
    }

    private static void bounceTimes() {
        Checks.sentence("was it so BOUNCE times, it is never, STATE changes");
        for (int bounce = 1; bounce <= 9; bounce++) {
            KeyMatrix x = Checks.board("board 1 1;bounce " + bounce + ";");
            x.press(0, true);
            for (int so = 1; so < bounce; so++) {
                x.tick(1);
                Checks.due("so of " + bounce, x.key(0, 4), so);
                Checks.due("STATE", x.key(0, 3), 0);
            }
            x.tick(1);
            Checks.due("never of " + bounce, x.key(0, 4), 0);
            Checks.due("STATE", x.key(0, 3), 1);
            Checks.due("EVENTS", x.count(10), 1);
            Checks.due("its TICK", x.strokes(0, 2), bounce);
            x.tick(1);
            Checks.due("never again of " + bounce, x.key(0, 4), 0);
        }
        KeyMatrix x = Checks.board("board 1 1;");
        x.press(0, true);
        x.tick(1);
        Checks.due("not told: once", x.count(6), 0);
        x.tick(1);
        Checks.due("not told: twice", x.count(6), 1);
    }

    private static void bounceBroken() {
        Checks.sentence("it was so once more, else never (it is open again)");
        KeyMatrix x = Checks.board("board 1 1;bounce 9;");
        x.press(0, true);
        x.tick(8);
        Checks.due("eight times", x.key(0, 4), 8);
        x.press(0, false);
        Checks.due("until the next TICK", x.key(0, 4), 8);
        x.tick(1);
        Checks.due("never", x.key(0, 4), 0);
        x.press(0, true);
        x.tick(8);
        Checks.due("no EVENT", x.count(10), 0);
        // Open and closed again between two ticks: no scan has seen it.
        x.press(0, false);
        x.press(0, true);
        x.tick(1);
        Checks.due("an EVENT", x.count(10), 1);
    }

    private static void bounceOfUp() {
        Checks.sentence("SEEN is unlike STATE (down): an EVENT, DOWN or UP of the KEY at NOW");
        KeyMatrix x = Checks.board("board 1 1;bounce 3;");
        x.press(0, true);
        x.tick(3);
        x.press(0, false);
        x.tick(2);
        Checks.due("twice so", x.key(0, 4), 2);
        Checks.due("down", x.key(0, 3), 1);
        x.press(0, true);
        x.tick(1);
        Checks.due("never", x.key(0, 4), 0);
        x.press(0, false);
        x.tick(3);
        Checks.due("up", x.key(0, 3), 0);
        Checks.due("EVENTS", x.count(10), 2);
        Checks.due("its TICK", x.strokes(0, 2), 9);
    }

    private static void barredIsNever() {
        Checks.sentence("is it not BARRED, it was so once more, else never");
        KeyMatrix x = Checks.board("board 2 2;bounce 3;");
        press(x, 0, 1);
        x.tick(2);
        Checks.due("twice so", x.key(1, 4), 2);
        press(x, 2);
        x.tick(1);
        for (int key = 0; key < 4; key++) {
            Checks.due("key(" + key + ", 4)", x.key(key, 4), 0);
        }
        x.press(2, false);
        x.tick(2);
        Checks.due("twice so again", x.key(1, 4), 2);
        Checks.due("no EVENT", x.count(10), 0);
        x.tick(1);
        Checks.due("two EVENTS", x.count(10), 2);
    }

    private static void barredKeepsState() {
        Checks.sentence("is it not BARRED and SEEN is unlike STATE (a KEY that is down)");
        KeyMatrix x = Checks.board("board 2 2;bounce 1;");
        press(x, 0, 1);
        x.tick(1);
        press(x, 2);
        x.tick(50);
        Checks.due("down", x.count(6), 3);
        // Key 0 is seen by the three others, although it is open.
        press(x, 3);
        x.press(0, false);
        x.tick(50);
        Checks.due("still down", x.count(6), 3);
        x.press(2, false);
        x.tick(1);
        Checks.due("1 and 3", x.count(6), 10);
    }

    private static void seenButOpenComesDown() {
        Checks.sentence("STATE changes (of a KEY that is SEEN, not of its SWITCH)");
        // Row 0 with columns 0 and 1, row 1 with column 1: all four are seen, so all are barred; key 4 of three columns is not.
        KeyMatrix x = Checks.board("board 2 3;bounce 1;");
        press(x, 0, 1, 4);
        x.tick(1);
        Checks.due("none is down", x.count(6), 0);
        press(x, 2);
        Checks.due("all seen", x.count(8), 63);
        Checks.due("all barred", x.count(9), 63);
        x.press(0, false);
        // Columns 1 and 2 with both rows: 3 is seen by none.
        Checks.due("four seen", x.count(8), 0b110110);
        x.press(4, false);
        x.tick(1);
        Checks.due("a row is down", x.count(6), 6);
    }

    private static void eventsByNumbers() {
        Checks.sentence("for each KEY, by numbers: an EVENT comes behind the QUEUE");
        KeyMatrix x = Checks.board("board 4 6;diodes;bounce 1;term 99;key 0 0 hold 1 mod 0;");
        for (int key = 23; key >= 0; key--) {
            x.press(key, true);
        }
        x.tick(1);
        Checks.due("how many", x.event(-1, 0), 24);
        for (int i = 0; i < 24; i++) {
            Checks.due("event(" + i + ", 0)", x.event(i, 0), i);
            Checks.due("event(" + i + ", 1)", x.event(i, 1), 1);
            Checks.due("event(" + i + ", 2)", x.event(i, 2), 1);
        }
        Checks.due("event(24, 0)", x.event(24, 0), -1);
        x.press(23, false);
        x.tick(1);
        Checks.due("all gone: its DOWN was among those gone through", x.event(-1, 0), 0);
    }

    private static void manyEventsWait() {
        Checks.sentence("an EVENT comes behind the QUEUE (as many as can wait)");
        KeyMatrix x = Checks.board("board 4 6;diodes;bounce 1;term 99;key 0 23 hold 1 mod 0;key 0 0 code 5;");
        pressOthers(x, true);
        Checks.down(x, 23);
        Checks.due("the hold waits", x.event(-1, 0), 1);
        pressOthers(x, false);
        Checks.due("UP of all others behind it", x.event(-1, 0), 24);
        pressOthers(x, true);
        Checks.due("and their DOWN", x.event(-1, 0), 47);
        for (int i = 1; i < 47; i++) {
            Checks.due("event(" + i + ", 0)", x.event(i, 0), (i - 1) % 23);
            Checks.due("event(" + i + ", 1)", x.event(i, 1), i < 24 ? 0 : 1);
            Checks.due("event(" + i + ", 2)", x.event(i, 2), i < 24 ? 3 : 4);
        }
        Checks.due("event(47, 0)", x.event(47, 0), -1);
        Checks.due("still sent", x.sent(2), 5);
        x.tick(50);
        x.tick(46);
        Checks.due("still wait", x.event(-1, 0), 47);
        Checks.due("REPORTS of the end of TERM", x.tick(1), 3);
        Checks.due("none waits", x.event(-1, 0), 0);
        Checks.due("EVENTS", x.count(10), 70);
    }

    private static void pressOthers(KeyMatrix x, boolean closed) {
        for (int key = 0; key < 23; key++) {
            x.press(key, closed);
        }
        x.tick(1);
    }

    private static int bits(float steady) {
        return Float.floatToIntBits(steady);
    }

    private static void steadyAtFirst() {
        Checks.sentence("STEADY of a KEY (a float, 0 at first)");
        KeyMatrix x = Checks.board("board 1 2;");
        Checks.due("bits", x.key(1, 5), bits(0.0f));
        x.press(0, true);
        Checks.due("before the TICK", x.key(0, 5), bits(0.0f));
        x.tick(50);
        Checks.due("of one that is not SEEN", x.key(1, 5), bits(0.0f));
    }

    private static void steadyTimesThenMore() {
        Checks.sentence("with each TICK it becomes itself times 0.875, and 0.125 more if SEEN (first times, then more)");
        KeyMatrix x = Checks.board("board 1 1;");
        x.press(0, true);
        x.tick(1);
        Checks.due("one TICK", x.key(0, 5), bits(0.125f));
        x.tick(1);
        Checks.due("two", x.key(0, 5), bits(0.125f * 0.875f + 0.125f));
        x.press(0, false);
        x.tick(1);
        Checks.due("open", x.key(0, 5), bits((0.125f * 0.875f + 0.125f) * 0.875f));
        x = Checks.board("board 2 2;");
        press(x, 0, 1, 2);
        x.tick(1);
        Checks.due("open, SEEN and BARRED", x.key(3, 5), bits(0.125f));
    }

    private static void steadyIsFull() {
        Checks.sentence("STEADY (floats): as great as it gets");
        KeyMatrix x = Checks.board("board 1 1;");
        x.press(0, true);
        float steady = 0;
        for (int ticks = 0; ticks < 150; ticks++) {
            x.tick(2);
            steady = steady * 0.875f + 0.125f;
            steady = steady * 0.875f + 0.125f;
            Checks.due("after " + (2 * ticks + 2), x.key(0, 5), bits(steady));
        }
        Checks.yes("near one", steady > 0.999f && steady <= 1.0f);
    }

    private static void steadyIsTiny() {
        Checks.sentence("STEADY (floats): as small as it gets");
        KeyMatrix x = Checks.board("board 1 1;");
        x.press(0, true);
        x.tick(1);
        x.press(0, false);
        float steady = 0.125f;
        for (int ticks = 0; ticks < 200; ticks++) {
            x.tick(4);
            for (int i = 0; i < 4; i++) {
                steady *= 0.875f;
            }
            Checks.due("open for " + (4 * ticks + 4), x.key(0, 5), bits(steady));
        }
        Checks.yes("below the least normal one", steady < Float.MIN_NORMAL);
        x.tick(50);
        x.tick(50);
        x.press(0, true);
        x.tick(1);
        Checks.due("closed again", x.key(0, 5), bits(0.125f));
    }

    private static void strokesWhenEventsCame() {
        Checks.sentence("STROKES of a KEY: how often an EVENT DOWN of it came (though it waits)");
        KeyMatrix x = Checks.board("board 1 2;bounce 1;term 99;key 0 0 hold 1 mod 0;");
        Checks.down(x, 0);
        Checks.due("it waits", x.event(-1, 0), 1);
        Checks.due("STROKES", x.strokes(0, 0), 1);
        Checks.due("LONGEST", x.strokes(0, 1), 0);
        Checks.due("TICK", x.strokes(0, 2), 1);
        Checks.down(x, 1);
        Checks.due("STROKES behind it", x.strokes(1, 0), 1);
    }

    private static void longestOfAll() {
        Checks.sentence("its LONGEST: the most TICKS from such a one to the next UP of it");
        KeyMatrix x = Checks.board("board 1 1;bounce 1;");
        int[] ticks = {1, 5, 4, 5, 6, 1};
        int[] longest = {1, 5, 5, 5, 6, 6};
        for (int i = 0; i < ticks.length; i++) {
            Checks.strike(x, 0, ticks[i]);
            Checks.due("LONGEST after " + (i + 1), x.strokes(0, 1), longest[i]);
            Checks.due("STROKES after " + (i + 1), x.strokes(0, 0), i + 1);
            x.tick(20);
        }
        x.press(0, true);
        x.tick(50);
        Checks.due("one that is not yet UP", x.strokes(0, 1), 6);
        x.press(0, false);
        x.tick(1);
        Checks.due("UP", x.strokes(0, 1), 50);
        x = Checks.board("board 1 1;bounce 9;");
        x.press(0, true);
        x.tick(9);
        x.press(0, false);
        x.tick(9);
        Checks.due("from EVENT to EVENT", x.strokes(0, 1), 9);
    }

    private static void latestEventOfEither() {
        Checks.sentence("the TICK of its latest EVENT");
        KeyMatrix x = Checks.board("board 1 2;bounce 1;");
        Checks.due("none", x.strokes(0, 2), -1);
        x.tick(3);
        Checks.down(x, 0);
        Checks.due("DOWN", x.strokes(0, 2), 4);
        x.tick(3);
        Checks.up(x, 0);
        Checks.due("UP", x.strokes(0, 2), 8);
        x.tick(3);
        Checks.due("later", x.strokes(0, 2), 8);
        Checks.due("the other's", x.strokes(1, 2), -1);
    }
}
