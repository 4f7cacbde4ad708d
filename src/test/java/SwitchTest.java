/** Promises 6, 7, 8, 15, 18 and the switches' part of 22: what is seen, barred, believed; how steady, how often. */
public final class SwitchTest {
    private SwitchTest() {
    }

    public static void main(String[] args) {
        press();
        tickBounds();
        seenThroughOthers();
        barredNeedsFour();
        diodes();
        bounce();
        barredIsNeverUnlike();
        steady();
        steadyGetsTiny();
        strokes();
        ghosts();
        Checks.close();
    }

    // Promise 6
    private static void press() {
        KeyMatrix x = Checks.board("board 4 6;");
        Checks.yes("press the last key", x.press(23, true));
        Checks.no("press it again", x.press(23, true));
        Checks.no("press key 24", x.press(24, true));
        Checks.no("press key -1", x.press(-1, true));
        Checks.no("press the greatest", x.press(Integer.MAX_VALUE, true));
        Checks.no("open an open one", x.press(0, false));
        Checks.due("closed", x.count(7), 1 << 23);
        Checks.yes("open it", x.press(23, false));
        Checks.due("none closed", x.count(7), 0);
        x = Checks.board("board 1 2;");
        Checks.no("press key 2 of two", x.press(2, true));
    }

    // Promise 7
    private static void tickBounds() {
        KeyMatrix x = Checks.board("board 1 1;bounce 1;key 0 0 code 5;");
        Checks.due("tick(0)", x.tick(0), -1);
        Checks.due("tick(51)", x.tick(51), -1);
        Checks.due("tick(-1)", x.tick(-1), -1);
        Checks.due("tick of the least", x.tick(Integer.MIN_VALUE), -1);
        Checks.due("NOW", x.count(2), 0);
        Checks.due("tick(50)", x.tick(50), 0);
        Checks.due("NOW", x.count(2), 50);
        x.press(0, true);
        Checks.due("tick(2)", x.tick(2), 1);
        Checks.due("tick(2) more", x.tick(2), 0);
    }

    private static void seenThroughOthers() {
        KeyMatrix x = Checks.board("board 3 3;");
        // 0 row 0 column 0; 1 row 0 column 1; 4 row 1 column 1; 5 row 1 column 2: a path to 2 and 3.
        for (int key : new int[] {0, 1, 4, 5}) {
            x.press(key, true);
        }
        Checks.due("seen", x.count(8), 0b000111111);
        Checks.due("key 2 is seen", x.key(2, 1), 1);
        Checks.due("key 2 is open", x.key(2, 0), 0);
        Checks.due("key 6 is not seen", x.key(6, 1), 0);
        Checks.due("barred", x.count(9), 0b000111111);
        x.press(8, true);
        Checks.due("all seen", x.count(8), 0b111111111);
        x.press(4, false);
        // Row 0 with columns 0 and 1; rows 1 and 2 with column 2.
        Checks.due("seen in two parts", x.count(8), 0b100100011);
        Checks.due("barred in none", x.count(9), 0);
    }

    private static void barredNeedsFour() {
        KeyMatrix x = Checks.board("board 2 3;");
        x.press(0, true);
        x.press(1, true);
        x.press(2, true);
        Checks.due("a row is not barred", x.count(9), 0);
        x.press(3, true);
        Checks.due("two rows are", x.count(9), 63);
        Checks.due("key(5, 2)", x.key(5, 2), 1);
        x = Checks.board("board 4 1;");
        for (int key = 0; key < 4; key++) {
            x.press(key, true);
        }
        Checks.due("a column is seen", x.count(8), 15);
        Checks.due("a column is not barred", x.count(9), 0);
    }

    private static void diodes() {
        KeyMatrix x = Checks.board("board 2 2;diodes;bounce 1;");
        for (int key = 0; key < 3; key++) {
            x.press(key, true);
        }
        Checks.due("seen", x.count(8), 7);
        Checks.due("barred", x.count(9), 0);
        x.press(3, true);
        Checks.due("all seen", x.count(8), 15);
        Checks.due("none barred", x.count(9), 0);
        x.tick(1);
        Checks.due("all down", x.count(6), 15);
    }

    private static void bounce() {
        KeyMatrix x = Checks.board("board 1 2;bounce 3;");
        x.press(0, true);
        x.tick(2);
        Checks.due("unlike twice", x.key(0, 4), 2);
        Checks.due("still up", x.key(0, 3), 0);
        x.press(0, false);
        x.tick(1);
        Checks.due("never so", x.key(0, 4), 0);
        x.press(0, true);
        x.tick(2);
        Checks.due("no event", x.count(10), 0);
        x.tick(1);
        Checks.due("down", x.key(0, 3), 1);
        Checks.due("never again", x.key(0, 4), 0);
        Checks.due("an event", x.count(10), 1);
        x.press(0, false);
        x.tick(2);
        Checks.due("still down", x.count(6), 1);
        Checks.due("unlike twice", x.key(0, 4), 2);
        x.tick(1);
        Checks.due("up", x.count(6), 0);
        Checks.due("two events", x.count(10), 2);
        Checks.due("key(0, 6)", x.key(0, 6), -1);
        Checks.due("key(0, -1)", x.key(0, -1), -1);
        Checks.due("key(2, 0)", x.key(2, 0), -1);
        Checks.due("key(-1, 0)", x.key(-1, 0), -1);
    }

    private static void barredIsNeverUnlike() {
        KeyMatrix x = Checks.board("board 2 2;bounce 2;");
        x.press(0, true);
        x.tick(1);
        Checks.due("once", x.key(0, 4), 1);
        x.press(1, true);
        x.press(2, true);
        x.tick(1);
        Checks.due("barred: never", x.key(0, 4), 0);
        Checks.due("barred: up", x.count(6), 0);
        x.press(2, false);
        x.tick(2);
        Checks.due("two down", x.count(6), 3);
        x.press(2, true);
        x.press(0, false);
        x.tick(9);
        // Column 0 with row 1, column 1 with row 0: nothing is barred, 0 is not seen.
        Checks.due("1 and 2 down", x.count(6), 6);
        x.press(0, true);
        x.tick(9);
        Checks.due("a ghost keeps the states", x.count(6), 6);
    }

    private static int steadyBits(int closed, int open) {
        float steady = 0;
        for (int i = 0; i < closed + open; i++) {
            steady *= 0.875f;
            if (i < closed) {
                steady += 0.125f;
            }
        }
        return Float.floatToIntBits(steady);
    }

    private static void steady() {
        KeyMatrix x = Checks.board("board 1 1;");
        Checks.due("steady at first", x.key(0, 5), 0);
        x.press(0, true);
        for (int ticks = 1; ticks <= 200; ticks++) {
            x.tick(1);
            Checks.due("steady after " + ticks, x.key(0, 5), steadyBits(ticks, 0));
        }
        x.press(0, false);
        x.tick(50);
        Checks.due("steady less", x.key(0, 5), steadyBits(200, 50));
        KeyMatrix ghost = Checks.board("board 2 2;");
        for (int key = 0; key < 3; key++) {
            ghost.press(key, true);
        }
        ghost.tick(1);
        Checks.due("a ghost is steady, too", ghost.key(3, 5), Float.floatToIntBits(0.125f));
    }

    private static void steadyGetsTiny() {
        KeyMatrix x = Checks.board("board 1 1;");
        x.press(0, true);
        x.tick(3);
        x.press(0, false);
        for (int ticks = 5; ticks <= 1000; ticks += 5) {
            x.tick(5);
            Checks.due("steady open for " + ticks, x.key(0, 5), steadyBits(3, ticks));
        }
    }

    // Promise 15
    private static void strokes() {
        KeyMatrix x = Checks.board("board 1 2;bounce 1;");
        Checks.due("no strokes", x.strokes(0, 0), 0);
        Checks.due("no longest", x.strokes(0, 1), 0);
        Checks.due("no event", x.strokes(0, 2), -1);
        int[] longs = {4, 7, 2};
        for (int ticks : longs) {
            x.press(0, true);
            x.tick(ticks);
            x.press(0, false);
            x.tick(3);
        }
        Checks.due("strokes", x.strokes(0, 0), 3);
        Checks.due("longest", x.strokes(0, 1), 7);
        Checks.due("latest event", x.strokes(0, 2), 4 + 3 + 7 + 3 + 2 + 1);
        x.press(0, true);
        x.tick(20);
        Checks.due("a fourth", x.strokes(0, 0), 4);
        Checks.due("not yet longer", x.strokes(0, 1), 7);
        Checks.due("its event", x.strokes(0, 2), 23);
        Checks.due("the other's", x.strokes(1, 0), 0);
        Checks.due("strokes(0, 3)", x.strokes(0, 3), -2);
        Checks.due("strokes(0, -1)", x.strokes(0, -1), -2);
        Checks.due("strokes(2, 0)", x.strokes(2, 0), -2);
        Checks.due("strokes(-1, 0)", x.strokes(-1, 0), -2);
    }

    // Promise 18
    private static void ghosts() {
        KeyMatrix x = Checks.board("board 3 4;bounce 1;");
        x.press(11, true);
        x.tick(1);
        // 0 and 1 in row 0, 4 in row 1: the ghost is 5.
        Checks.due("one other", x.ghosts(0b010011, 0), 1);
        Checks.due("four barred", x.ghosts(0b010011, 1), 4);
        Checks.due("parts", x.ghosts(0b010011, 2), 7 - 3);
        Checks.due("none closed", x.ghosts(0, 2), 7);
        Checks.due("all closed: others", x.ghosts(0xFFF, 0), 0);
        Checks.due("all closed: barred", x.ghosts(0xFFF, 1), 12);
        Checks.due("all closed: parts", x.ghosts(0xFFF, 2), 1);
        Checks.due("no such set", x.ghosts(0x1000, 0), -1);
        Checks.due("a negative set", x.ghosts(-1, 0), -1);
        Checks.due("the least set", x.ghosts(Integer.MIN_VALUE, 2), -1);
        Checks.due("ghosts(0, 3)", x.ghosts(0, 3), -1);
        Checks.due("ghosts(0, -1)", x.ghosts(0, -1), -1);
        Checks.due("the switches are as they were", x.count(7), 1 << 11);
        Checks.due("and what is seen", x.count(8), 1 << 11);
        x.press(0, true);
        Checks.due("still so", x.count(8), 1 << 11 | 1);
        x = Checks.board("board 2 2;diodes;");
        Checks.due("diodes: others", x.ghosts(7, 0), 0);
        Checks.due("diodes: barred", x.ghosts(15, 1), 0);
        Checks.due("diodes: parts", x.ghosts(7, 2), 1);
        x = Checks.board("board 4 6;");
        Checks.due("24 keys", x.ghosts(0xFFFFFF, 1), 24);
        Checks.due("a 25th", x.ghosts(0x1000000, 1), -1);
    }
}
