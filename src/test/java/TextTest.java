/** Promises 1 to 5, 9 and 17: the tape, texts, their faults, what they tell. */
public final class TextTest {
    private TextTest() {
    }

    public static void main(String[] args) {
        newObject();
        tape();
        blanksAndInts();
        syntax();
        room();
        twice();
        wrong();
        firstFaultCounts();
        settings();
        deeds();
        macros();
        readChangesAll();
        faultChangesNothing();
        Checks.close();
    }

    // Promise 1
    private static void newObject() {
        KeyMatrix x = new KeyMatrix();
        int[] counts = {0, 0, 0, 0, 1, 0, 0, 0, 0, 0, 0, 0, 0, 0, 0, 2, 8, 3, 6, 0, 20, 5, -1};
        for (int i = 0; i < counts.length; i++) {
            Checks.due("new: count(" + i + ")", x.count(i), counts[i]);
        }
        Checks.due("new: count(-1)", x.count(-1), -1);
        Checks.due("new: place()", x.place(), -1);
        Checks.due("new: key", x.key(0, 0), -1);
        Checks.due("new: deed by layers", x.deed(-1, 0, 0), -1);
        Checks.due("new: does", x.does(0, 0), -2);
        Checks.due("new: strokes", x.strokes(0, 0), -2);
        Checks.no("new: press", x.press(0, true));
        Checks.due("new: tick", x.tick(1), -1);
        Checks.due("new: ahead", x.ahead(1, 0), -1);
        Checks.due("new: ghosts of none", x.ghosts(0, 2), 0);
        Checks.due("new: ghosts of one", x.ghosts(1, 2), -1);
        Checks.due("new: host", x.host(0), -1);
    }

    // Promises 2 and 3
    private static void tape() {
        KeyMatrix x = new KeyMatrix();
        Checks.due("back of none", x.back(0), 0);
        Checks.due("back of too many", x.back(1), -1);
        Checks.due("feed", x.feed('b' << 24 | 'o' << 16 | 'a' << 8 | 'r', 'd' << 24 | ' ' << 16 | '1' << 8 | ' ',
                '2' << 24 | ';' << 16 | 0xFF << 8, -1, Integer.MIN_VALUE), 20);
        Checks.due("back below 0", x.back(-1), -1);
        Checks.due("back of the least", x.back(Integer.MIN_VALUE), -1);
        Checks.due("back", x.back(10), 10);
        Checks.due("count(11)", x.count(11), 10);
        Checks.due("back of 11", x.back(11), -1);
        Checks.due("read", x.read(), 0);
        Checks.due("rows", x.count(0), 1);
        Checks.due("columns", x.count(1), 2);
        Checks.due("the tape is empty", x.count(11), 0);
        for (int i = 1; i <= 100; i++) {
            Checks.due("feed " + i, x.feed(0, 0, 0, 0, 0), 20 * i);
        }
        Checks.due("feed of a full tape", x.feed(0, 0, 0, 0, 0), -1);
        Checks.due("a full tape", x.count(11), 2000);
        Checks.due("back of one", x.back(1), 1999);
        Checks.due("feed of one too many", x.feed(0, 0, 0, 0, 0), -1);
        Checks.due("back to 1981", x.back(18), 1981);
        Checks.due("feed to 2001", x.feed(0, 0, 0, 0, 0), -1);
        Checks.due("back to 1980", x.back(1), 1980);
        Checks.due("feed of the last", x.feed(0, 0, 0, 0, 0), 2000);
        Checks.due("back of all", x.back(2000), 0);
    }

    private static void blanksAndInts() {
        KeyMatrix x = Checks.board("\t\r\n board4 0006\n;diodes;key 3 23code0200;bounce9;");
        Checks.due("rows", x.count(0), 4);
        Checks.due("columns", x.count(1), 6);
        Checks.due("bounce", x.count(15), 9);
        Checks.due("the last key", x.deed(3, 23, 1), 200);
        Checks.fault("board 1 2;\fsix;", 1, 10);
        Checks.fault("board 1 00002;", 1, 8);
        Checks.fault("board 1 2;Six;", 1, 10);
        Checks.fault("board 1 2;six\u00e9;", 1, 13);
        Checks.fault("board 1 2;six\u0000;", 1, 13);
        Checks.fault("board 1 2;si x;", 1, 10);
        Checks.fault("board 1 2;sixsix;", 1, 10);
        Checks.fault("boardboard 1 2;", 1, 0);
        Checks.fault("board 1 2;bounce 1 2;", 1, 19);
        Checks.fault("board 1 2;bounce -2;", 1, 17);
    }

    private static void syntax() {
        Checks.fault("", 1, 0);
        Checks.fault("  \n", 1, 3);
        Checks.fault(";", 1, 0);
        Checks.fault("six;", 1, 0);
        Checks.fault("board", 1, 5);
        Checks.fault("board 1", 1, 7);
        Checks.fault("board 1 2", 1, 9);
        Checks.fault("board 1 2 ", 1, 10);
        Checks.fault("board 1 2 3;", 1, 10);
        Checks.fault("board 1 six;", 1, 8);
        Checks.fault("board 1 2;;", 1, 10);
        Checks.fault("board 1 2;board 1 2;", 1, 10);
        Checks.fault("board 1 2;code 3;", 1, 10);
        Checks.fault("board 1 2;7;", 1, 10);
        Checks.fault("board 1 2;six", 1, 13);
        Checks.fault("board 1 2;six 1;", 1, 14);
        Checks.fault("board 1 2;repeat 3;", 1, 18);
        Checks.fault("board 1 2;key 0 code 3;", 1, 16);
        Checks.fault("board 1 2;key 0 0;", 1, 17);
        Checks.fault("board 1 2;key 0 0 six;", 1, 18);
        Checks.fault("board 1 2;key 0 0 word;", 1, 18);
        Checks.fault("board 1 2;key 0 0 nothing 1;", 1, 26);
        Checks.fault("board 1 2;key 0 0 code;", 1, 22);
        Checks.fault("board 1 2;key 0 0 code 1 2;", 1, 25);
        Checks.fault("board 1 2;key 0 0 hold 1;", 1, 24);
        Checks.fault("board 1 2;key 0 0 hold 1 toggle 1;", 1, 25);
        Checks.fault("board 1 2;key 0 0 hold 1 layer;", 1, 30);
        Checks.fault("board 1 2;key 0 0 double 1;", 1, 26);
        Checks.fault("board 1 2;chord 0 code 1;", 1, 18);
        Checks.fault("board 1 2;macro;", 1, 15);
        Checks.fault("board 1 2;macro code;", 1, 16);
    }

    private static String times(String piece, int times) {
        StringBuilder text = new StringBuilder();
        for (int i = 0; i < times; i++) {
            text.append(piece);
        }
        return text.toString();
    }

    private static void room() {
        String full = "board 1 2;" + times("six;", 198);
        KeyMatrix x = Checks.board(full);
        Checks.due("400 tokens", x.count(14), 1);
        Checks.fault(full + "six;", 2, full.length());
        Checks.fault(full + " ;", 1, full.length() + 1);
        Checks.fault(full + " 12345", 1, full.length() + 1);
        Checks.fault(full + "\n", 0, -1);
        Checks.fault(full.substring(0, full.length() - 4) + "key 0 0 code 1;", 2, full.length() + 2);
        Checks.fault("board 9 2;" + times("six;", 199), 2, full.length());
        String chords = "board 2 6;" + "chord 0 1 code 1;chord 2 3 code 1;chord 4 5 code 1;chord 6 7 code 1;";
        Checks.due("four chords", Checks.board(chords).chord(-1, 0), 4);
        Checks.fault(chords + "chord 8 9 code 1;", 2, chords.length());
        Checks.fault(chords + "chord", 2, chords.length());
        Checks.fault(chords + "chord 0 0 layer 0 {", 2, chords.length());
        String macros = "board 1 1;macro 1;macro 2;macro 3;macro 4;";
        Checks.due("four macros", Checks.board(macros).count(19), 4);
        Checks.fault(macros + "six; macro 5;", 2, macros.length() + 5);
        Checks.due("eight codes", Checks.board("board 1 1;macro 1 2 3 4 5 6 7 8;").macro(0, -1), 8);
        Checks.fault("board 1 1;macro 1 2 3 4 5 6 7 8 9;", 2, 32);
        Checks.fault("board 1 1;macro 1 2 3 4 5 6 7 8 x;", 1, 32);
        Checks.fault("board 1 1;macro 1 2 3 4 5 6 7 8 99999;", 1, 32);
    }

    private static void twice() {
        Checks.fault("board 1 4;chord 3 3 code 1;", 3, 18);
        Checks.fault("board 1 4;chord 3 003 code 1;", 3, 18);
        Checks.fault("board 1 4;chord 0 1 code 1;chord 1 2 code 1;", 3, 33);
        Checks.fault("board 1 4;chord 0 1 code 1;chord 2 0 code 1;", 3, 35);
        Checks.fault("board 1 4;chord 0 1 code 1;chord 2 3 code 1;", 0, -1);
        Checks.fault("board 1 4;chord 0 9 code 1;chord 0 1 code 1;", 5, 18);
    }

    private static void wrong() {
        Checks.fault("board 0 2;", 5, 6);
        Checks.fault("board 5 2;", 5, 6);
        Checks.fault("board 4 0;", 5, 8);
        Checks.fault("board 4 7;", 5, 8);
        Checks.fault("board 4 6;key 0 24 nothing;", 5, 16);
        Checks.fault("board 5 6;key 0 99 nothing;", 5, 6);
        Checks.fault("board 1 2;key 4 0 nothing;", 5, 14);
        Checks.fault("board 1 2;key 3 2 nothing;", 5, 16);
        Checks.fault("board 1 2;bounce 0;", 5, 17);
        Checks.fault("board 1 2;bounce 10;", 5, 17);
        Checks.fault("board 1 2;term 0;", 5, 15);
        Checks.fault("board 1 2;term 100;", 5, 15);
        Checks.fault("board 1 2;chording 0;", 5, 19);
        Checks.fault("board 1 2;chording 21;", 5, 19);
        Checks.fault("board 1 2;twice 0;", 5, 16);
        Checks.fault("board 1 2;twice 41;", 5, 16);
        Checks.fault("board 1 2;repeat 0 1;", 5, 17);
        Checks.fault("board 1 2;repeat 100 1;", 5, 17);
        Checks.fault("board 1 2;repeat 1 0;", 5, 19);
        Checks.fault("board 1 2;repeat 1 21;", 5, 19);
        Checks.fault("board 1 2;macro 0;", 5, 16);
        Checks.fault("board 1 2;macro 200 201;", 5, 20);
        Checks.fault("board 1 2;key 0 0 code 0;", 5, 23);
        Checks.fault("board 1 2;key 0 0 code 201;", 5, 23);
        Checks.fault("board 1 2;key 0 0 mod 8;", 5, 22);
        Checks.fault("board 1 2;key 0 0 layer 0;", 5, 24);
        Checks.fault("board 1 2;key 0 0 layer 4;", 5, 24);
        Checks.fault("board 1 2;key 0 0 toggle 0;", 5, 25);
        Checks.fault("board 1 2;key 0 0 toggle 4;", 5, 25);
        Checks.fault("board 1 2;key 0 0 play 4;", 5, 23);
        Checks.fault("board 1 2;key 0 0 hold 0 mod 1;", 5, 23);
        Checks.fault("board 1 2;key 0 0 hold 1 mod 8;", 5, 29);
        Checks.fault("board 1 2;key 0 0 hold 1 layer 0;", 5, 31);
        Checks.fault("board 1 2;key 0 0 hold 1 layer 4;", 5, 31);
        Checks.fault("board 1 2;key 0 0 double 0 1;", 5, 25);
        Checks.fault("board 1 2;key 0 0 double 1 201;", 5, 27);
        Checks.fault("board 1 2;chord 0 2 code 1;", 5, 18);
        for (String word : new String[] {"layer 1", "toggle 1", "nothing", "below", "hold 1 mod 1", "double 1 2"}) {
            Checks.fault("board 1 2;chord 0 1 " + word + ";", 5, 20);
        }
        Checks.fault("board 1 2;chord 0 1 layer 9;", 5, 20);
        Checks.fault("board 1 2;chord 0 1 play 3;", 0, -1);
        Checks.fault("board 1 2;chord 0 1 mod 0;", 0, -1);
    }

    private static void firstFaultCounts() {
        Checks.fault("board 9 9;key 9 9 code 999;six", 1, 30);
        Checks.fault("board 9 9;chord 3 3 code 1;", 5, 6);
        Checks.fault("board 1 4;chord 3 3 code 0;bounce 0;", 3, 18);
        Checks.fault("board 1 4;bounce 0;chord 3 3 code 0;", 5, 17);
        Checks.fault("board 1 4;bounce 0;bounce 1;", 5, 17);
        Checks.fault("board 1 4;macro 1 2 3 4 5 6 7 8 9; x", 2, 32);
    }

    private static void settings() {
        KeyMatrix x = Checks.board("board 1 1;bounce 1;term 1;chording 1;twice 1;repeat 1 1;bounce 9;term 99;chording 20;"
                + "twice 40;repeat 99 20;diodes;six;six;");
        int[] last = {1, 1, 9, 99, 20, 40, 0, 99, 20};
        for (int i = 0; i < last.length; i++) {
            Checks.due("told: count(" + (13 + i) + ")", x.count(13 + i), last[i]);
        }
        Checks.retell(x, "board 1 1;");
        int[] first = {0, 0, 2, 8, 3, 6, 0, 20, 5};
        for (int i = 0; i < first.length; i++) {
            Checks.due("not told: count(" + (13 + i) + ")", x.count(13 + i), first[i]);
        }
    }

    // Promise 9
    private static void deeds() {
        KeyMatrix x = Checks.board("board 2 6;key 0 0 code 200;key 0 1 mod 0;key 0 2 layer 3;key 0 3 toggle 1;"
                + "key 0 4 nothing;key 0 5 below;key 0 6 hold 9 layer 2;key 0 7 hold 8 mod 7;key 0 8 double 4 5;"
                + "key 0 9 play 3;key 2 0 code 1;key 2 0 mod 7;key 3 11 nothing;");
        int[][] told = {{0, 200, -1}, {1, 0, -1}, {2, 3, -1}, {3, 1, -1}, {4, -1, -1}, {5, -1, -1}, {6, 9, 2}, {7, 8, 7},
            {8, 4, 5}, {9, 3, -1}, {4, -1, -1}};
        for (int key = 0; key < told.length; key++) {
            for (int what = 0; what < 3; what++) {
                Checks.due("deed(0, " + key + ", " + what + ")", x.deed(0, key, what), told[key][what]);
            }
        }
        Checks.due("the last one told", x.deed(2, 0, 0), 1);
        Checks.due("not told above", x.deed(1, 0, 0), 5);
        Checks.due("nothing above", x.deed(3, 11, 0), 4);
        Checks.due("below on layer 0", x.deed(-1, 5, 0), 4);
        Checks.due("deed of no what", x.deed(0, 0, 3), -1);
        Checks.due("deed of what below 0", x.deed(0, 0, -1), -1);
        Checks.due("deed of layer 4", x.deed(4, 0, 0), -1);
        Checks.due("deed of layer -2", x.deed(-2, 0, 0), -1);
        Checks.due("deed of no key", x.deed(0, 12, 0), -1);
        Checks.due("deed of key -1", x.deed(-1, -1, 0), -1);
    }

    // Promise 17
    private static void macros() {
        KeyMatrix x = Checks.board("board 1 1;macro 5 5 6;six;macro 200;");
        int[] codes = {5, 5, 6, -1};
        for (int k = 0; k < codes.length; k++) {
            Checks.due("macro(0, " + k + ")", x.macro(0, k), codes[k]);
        }
        Checks.due("macro(0, -1)", x.macro(0, -1), 3);
        Checks.due("macro(1, -1)", x.macro(1, -1), 1);
        Checks.due("macro(1, 0)", x.macro(1, 0), 200);
        Checks.due("macro(0, -2)", x.macro(0, -2), -1);
        Checks.due("macro(2, -1)", x.macro(2, -1), -1);
        Checks.due("macro(-1, -1)", x.macro(-1, -1), -1);
        Checks.due("macro(-1, 0)", x.macro(-1, 0), -1);
    }

    // Promise 4
    private static void readChangesAll() {
        KeyMatrix x = Checks.board("board 1 2;bounce 1;key 0 0 code 7;key 0 1 toggle 1;macro 1;chord 0 1 code 2;diodes;");
        x.press(0, true);
        x.tick(9);
        x.hold(0);
        x.hold(2);
        Checks.due("slots held", x.count(12), 2);
        Checks.retell(x, "board 2 2;");
        for (int what : new int[] {2, 3, 5, 6, 7, 8, 9, 10, 11, 12, 13, 19}) {
            Checks.due("after read: count(" + what + ")", x.count(what), 0);
        }
        Checks.due("after read: layers", x.count(4), 1);
        Checks.due("after read: deed", x.deed(0, 0, 0), 4);
        Checks.due("after read: does", x.does(0, 0), -1);
        Checks.due("after read: steady", x.key(0, 5), 0);
        Checks.due("after read: strokes", x.strokes(0, 0), 0);
        Checks.due("after read: last event", x.strokes(0, 2), -1);
        Checks.due("after read: latest", x.host(0), -1);
        Checks.due("after read: report", x.report(0, 0), -1);
        Checks.due("after read: chords", x.chord(-1, 0), 0);
        Checks.due("after read: sent", x.sent(1), 0);
        Checks.no("after read: restore", x.restore(0));
    }

    // Promises 4 and 5
    private static void faultChangesNothing() {
        KeyMatrix x = Checks.board("board 1 2;bounce 1;key 0 0 code 7;macro 1;");
        x.press(0, true);
        x.tick(3);
        x.hold(1);
        Checks.fault(x, "board 2 2;bounce 9;six;diodes;key 0 0 code 8;macro 2;chord 0 1 code 300;", 5, 68);
        int[] counts = {1, 2, 3, 1, 1, 0, 1, 1, 1, 0, 1, 0, 1, 0, 0, 1, 8, 3, 6, 1, 20, 5};
        for (int what = 0; what < counts.length; what++) {
            Checks.due("after a fault: count(" + what + ")", x.count(what), counts[what]);
        }
        Checks.due("after a fault: sent", x.sent(2), 7);
        Checks.due("after a fault: deed", x.deed(0, 0, 1), 7);
        Checks.due("after a fault: macro", x.macro(0, 0), 1);
        Checks.due("after a fault: chords", x.chord(-1, 0), 0);
        Checks.yes("after a fault: restore", x.restore(1));
        Checks.due("the place stays", x.place(), 68);
        Checks.fault(x, "", 1, 0);
        Checks.fault(x, "board 1 1;", 0, -1);
    }
}
