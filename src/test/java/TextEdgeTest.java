/** Part I of the document, sentence by sentence, where it names a bound: each has a test of its own here. */
public final class TextEdgeTest {
    private static final String BOARD = "board 1 2;";
    private static final String BIG = "board 4 6;";

    private TextEdgeTest() {
    }

    public static void main(String[] args) {
        mostBytes();
        fewestBytes();
        blanks();
        letters();
        digits();
        sign();
        longestWords();
        longestInts();
        withoutTells();
        boardFirst();
        wordsOfDeeds();
        wordsBehindHold();
        everyTokenIsNeeded();
        endedTooEarly();
        noTokenTooMany();
        rowsAndColumns();
        keysOfEveryBoard();
        settings();
        settingsNotTold();
        lastSettingCounts();
        layersOfKeys();
        lastKeyCounts();
        keysNotTold();
        deedNumbers();
        chordNumbers();
        chordDeeds();
        chordsAtMost();
        fifthChordFirst();
        macrosAtMost();
        codesAtMost();
        codeNumbers();
        tokensAtMost();
        tokensAtMostBySyntax();
        placeIsFirst();
        leastOfOnePlace();
        syntaxAndRoomBeforeOthers();
        endIsLength();
        unlikeKeys();
        keysOfChordsAhead();
        wrongBoardHidesNothing();
        faultKeepsAll();
        goodTextClearsAll();
        goodTextClearsBarred();
        goodTextClearsOrder();
        goodTextTellsAnew();
        goodTextClearsSlots();
        Checks.close();
    }

    private static String times(String piece, int times) {
        StringBuilder text = new StringBuilder();
        for (int i = 0; i < times; i++) {
            text.append(piece);
        }
        return text.toString();
    }

    /** A number in a line that stands where % does: its bounds are good, what is beyond them is WRONG at it. */
    private static void bounds(String before, String line, int least, int most) {
        String[] parts = line.split("%", -1);
        for (int number : new int[] {0, least - 1, least, most, most + 1, 9999}) {
            if (number >= 0) {
                boolean good = number >= least && number <= most;
                String text = before + parts[0] + number + parts[1];
                Checks.fault(text, good ? 0 : 5, good ? -1 : before.length() + parts[0].length());
            }
        }
    }

    private static void mostBytes() {
        Checks.sentence("A TEXT has 2,000 bytes at most");
        KeyMatrix x = new KeyMatrix();
        String full = BOARD + times(" ", 2000 - BOARD.length() - 4) + "six;";
        Checks.due("bytes", full.length(), 2000);
        Checks.fault(x, full, 0, -1);
        Checks.due("its last line is read", x.count(14), 1);
        Checks.fault(full.substring(0, 1999) + " ", 1, 2000);
        Checks.fault(full.substring(0, 1999) + "!", 1, 1999);
        Checks.fault(times("\n", 2000), 1, 2000);
        Checks.fault(times("a", 2000), 1, 0);
        Checks.fault(times("1", 2000), 1, 0);
        Checks.fault(times(";", 2000), 1, 0);
    }

    private static void fewestBytes() {
        Checks.sentence("of one place the least: SYNTAX (the text's end: its length)");
        Checks.fault("", 1, 0);
        Checks.fault("b", 1, 0);
        Checks.fault(" ", 1, 1);
        Checks.fault("board1 1;", 0, -1);
    }

    private static void blanks() {
        Checks.sentence("with blanks (9, 10, 13, 32) between or not");
        for (char blank : new char[] {9, 10, 13, 32}) {
            Checks.fault(blank + "board" + blank + "1" + blank + "2" + blank + ";" + blank, 0, -1);
            Checks.fault("board 1 2" + times("" + blank, 3) + ";", 0, -1);
            Checks.fault("boa" + blank + "rd 1 2;", 1, 0);
        }
        Checks.fault("board1 2;diodes;six;bounce1;key0 0code1;chord0 1mod0;macro1 2;", 0, -1);
        for (char none : new char[] {0, 8, 11, 12, 14, 31, 33, 127, 128, 160, 255}) {
            Checks.fault("board 1 2" + none + ";", 1, 9);
            Checks.fault("board 1 2;" + none, 1, 10);
        }
    }

    private static void letters() {
        Checks.sentence("WORDS (letters a .. z)");
        for (int one = 0; one < 256; one++) {
            boolean letter = one >= 'a' && one <= 'z';
            boolean blank = one == 9 || one == 10 || one == 13 || one == 32;
            int place = letter ? 10 : one == ';' ? 14 : 13;
            Checks.fault("board 1 2;six" + (char) one + ";", blank ? 0 : 1, blank ? -1 : place);
        }
        Checks.fault("Board 1 2;", 1, 0);
        Checks.fault("boarD 1 2;", 1, 0);
        Checks.fault("boardD 1 2;", 1, 5);
    }

    private static void digits() {
        Checks.sentence("INTS (1 to 4 digits). A longer INT is no TOKEN");
        Checks.fault("board 1 2;bounce 9;", 0, -1);
        Checks.fault("board 0001 0002;bounce 0009;", 0, -1);
        Checks.fault("board 00001 2;", 1, 6);
        Checks.fault("board 1 00002;", 1, 8);
        Checks.fault("board 1 2;bounce 00009;", 1, 17);
        Checks.fault("board 1 2;bounce 10000;", 1, 17);
        Checks.fault("board 1 2;bounce 12345678901234567890;", 1, 17);
        Checks.fault("board 1 2;bounce 1234;", 5, 17);
        Checks.fault("board 1 2;bounce 0000;", 5, 17);
        for (char none : new char[] {'/', ':', '-', '+', '.', ','}) {
            Checks.fault("board 1 2;bounce " + none + "9;", 1, 17);
            Checks.fault("board 1 2;bounce 9" + none + ";", 1, 18);
        }
    }

    private static void sign() {
        Checks.sentence("the SIGN ;");
        Checks.fault("board 1 2:", 1, 9);
        Checks.fault("board 1 2<", 1, 9);
        Checks.fault("board 1 2;;", 1, 10);
        Checks.fault(";board 1 2;", 1, 0);
    }

    private static void longestWords() {
        Checks.sentence("TOKENS, the longest that can be (WORDS)");
        Checks.fault("boards 1 2;", 1, 0);
        Checks.fault("boar 1 2;", 1, 0);
        Checks.fault("board 1 2;sixsix;", 1, 10);
        Checks.fault("board 1 2;sixz;", 1, 10);
        Checks.fault("board 1 2;sixa;", 1, 10);
        Checks.fault("board 1 2;zsix;", 1, 10);
        Checks.fault("board 1 2;key 0 0 codemod 1;", 1, 18);
        Checks.fault("board 1 2;key 0 0 hold 1layer1;", 0, -1);
    }

    private static void longestInts() {
        Checks.sentence("TOKENS, the longest that can be (INTS)");
        Checks.fault("board 12;", 1, 8);
        Checks.fault("board 1234 2;", 5, 6);
        Checks.fault("board 1 2;repeat 12;", 1, 19);
        Checks.fault("board 1 2;repeat 1 2;", 0, -1);
    }

    private static void withoutTells() {
        Checks.sentence("text: 'board' INT INT ';' {TELL} (none)");
        KeyMatrix x = Checks.board("board 2 3;");
        Checks.due("ROWS", x.count(0), 2);
        Checks.due("COLUMNS", x.count(1), 3);
    }

    private static final String[] TELLS = {"diodes", "six", "bounce", "term", "chording", "twice", "repeat", "key", "chord",
        "macro"};
    private static final String[] DEEDS = {"code", "mod", "layer", "toggle", "nothing", "below", "hold", "double", "play"};

    private static void boardFirst() {
        Checks.sentence("text: 'board' INT INT ';' {TELL} (first, and once)");
        for (String word : TELLS) {
            Checks.fault(word + " 1 2;", 1, 0);
        }
        for (String word : DEEDS) {
            Checks.fault(word + " 1 2;", 1, 0);
            Checks.fault(BOARD + word + " 1 2;", 1, 10);
        }
        Checks.fault(BOARD + BOARD, 1, 10);
    }

    private static void wordsOfDeeds() {
        Checks.sentence("DEED: 'code' INT | .. | 'play' INT (no other word)");
        for (String word : TELLS) {
            Checks.fault(BOARD + "key 0 0 " + word + " 1;", 1, 18);
            Checks.fault(BOARD + "key 0 0 " + word + ";", 1, 18);
            Checks.fault(BOARD + "chord 0 1 " + word + " 1;", 1, 20);
        }
        Checks.fault(BOARD + "key 0 0 board 1;", 1, 18);
        Checks.fault(BOARD + "chord 0 1 board 1;", 1, 20);
    }

    private static void wordsBehindHold() {
        Checks.sentence("'hold' INT ('layer' | 'mod') INT");
        for (String word : TELLS) {
            Checks.fault(BOARD + "key 0 0 hold 1 " + word + " 1;", 1, 25);
        }
        for (String word : DEEDS) {
            boolean good = word.equals("layer") || word.equals("mod");
            Checks.fault(BOARD + "key 0 0 hold 1 " + word + " 1;", good ? 0 : 1, good ? -1 : 25);
        }
    }

    // All kinds of lines that a text may have, their tokens apart by one blank each.
    private static final String[] LINES = {"diodes ;", "six ;", "bounce 1 ;", "term 1 ;", "chording 1 ;", "twice 1 ;",
        "repeat 1 1 ;", "key 0 0 code 1 ;", "key 0 0 mod 1 ;", "key 0 0 layer 1 ;", "key 0 0 toggle 1 ;",
        "key 0 0 nothing ;", "key 0 0 below ;", "key 0 0 hold 1 layer 1 ;", "key 0 0 hold 1 mod 1 ;",
        "key 0 0 double 1 1 ;", "key 0 0 play 1 ;", "chord 0 1 code 1 ;", "chord 0 1 mod 1 ;", "chord 0 1 play 1 ;",
        "macro 1 ;", "macro 1 2 ;"};

    private static void everyTokenIsNeeded() {
        Checks.sentence("TELL: ..; SYNTAX: a TOKEN, or what is none, with which no text goes on (a line cut short)");
        for (String line : LINES) {
            Checks.fault(BOARD + line, 0, -1);
            for (int at = line.indexOf(' '); at >= 0; at = line.indexOf(' ', at + 1)) {
                String cut = BOARD + line.substring(0, at);
                Checks.fault(cut, 1, cut.length());
                Checks.fault(cut + " board", 1, cut.length() + 1);
                Checks.fault(cut + " 12345", 1, cut.length() + 1);
                Checks.fault(cut + " A", 1, cut.length() + 1);
            }
        }
        for (int at : new int[] {5, 7, 9}) {
            String cut = "board 1 2;".substring(0, at);
            Checks.fault(cut, 1, at);
            Checks.fault(cut + " ;;", 1, at == 9 ? at + 2 : at + 1);
        }
    }

    private static void endedTooEarly() {
        Checks.sentence("FAULTS of a text, the first by its place (a line's ; too early, and a FAULT behind it)");
        for (String line : LINES) {
            int last = line.lastIndexOf(' ');
            for (int at = line.indexOf(' '); at < last; at = line.indexOf(' ', at + 1)) {
                String cut = BOARD + line.substring(0, at);
                boolean good = cut.endsWith("macro 1");
                for (String behind : new String[] {"foo", "six", "six six;", "bounce 0;x", ";", "!"}) {
                    int place = behind.equals("six") ? 3 : behind.equals("six six;") ? 4 : behind.equals("bounce 0;x") ? 9 : 0;
                    Checks.fault(cut + " ;" + behind, 1, cut.length() + (good ? 2 + place : 1));
                }
            }
        }
        for (String board : new String[] {"board ;", "board 1 ;", ";", "six ;", "board six ;"}) {
            int place = board.equals("six ;") ? 0 : board.equals("board six ;") ? 6 : board.indexOf(';');
            Checks.fault(board + "six six;", 1, place);
        }
    }

    private static void noTokenTooMany() {
        Checks.sentence("TELL: ..; SYNTAX: a TOKEN, or what is none, with which no text goes on (a line too long)");
        for (String line : LINES) {
            int end = BOARD.length() + line.length() - 1;
            String open = BOARD + line.substring(0, line.length() - 1);
            Checks.fault(open + "six ;", 1, end);
            if (!line.startsWith("macro")) {
                Checks.fault(open + "1 ;", 1, end);
            }
        }
    }

    private static void rowsAndColumns() {
        Checks.sentence("BOARD: ROWS 1 .. 4, COLUMNS 1 .. 6");
        for (int rows = 0; rows <= 5; rows++) {
            for (int columns = 0; columns <= 7; columns++) {
                boolean goodRows = rows >= 1 && rows <= 4;
                boolean goodColumns = columns >= 1 && columns <= 6;
                KeyMatrix x = new KeyMatrix();
                Checks.fault(x, "board " + rows + " " + columns + ";", goodRows && goodColumns ? 0 : 5,
                        !goodRows ? 6 : !goodColumns ? 8 : -1);
                Checks.due("ROWS", x.count(0), goodRows && goodColumns ? rows : 0);
                Checks.due("COLUMNS", x.count(1), goodRows && goodColumns ? columns : 0);
            }
        }
        Checks.fault("board 9999 9999;", 5, 6);
        Checks.fault("board 4 9999;", 5, 8);
    }

    private static void keysOfEveryBoard() {
        Checks.sentence("KEYS are numbered from 0 on, row by row; WRONG: KEYS by ROWS and COLUMNS");
        for (int rows = 1; rows <= 4; rows++) {
            for (int columns = 1; columns <= 6; columns++) {
                int keys = rows * columns;
                String board = "board " + rows + " " + columns + ";";
                bounds(board, "key 0 % code 1;", 0, keys - 1);
                if (keys > 2) {
                    bounds(board, "chord % " + (keys - 2) + " code 1;", 0, keys - 1);
                }
            }
        }
        bounds(BIG, "chord 22 % code 1;", 0, 23);
        KeyMatrix x = Checks.board("board 2 3;");
        x.press(2, true);
        Checks.due("key 2 is the last of the first row", x.ghosts(1 << 2 | 1 << 0, 2), 5 - 2);
        Checks.due("key 3 the first of the second one", x.ghosts(1 << 3 | 1 << 0, 2), 5 - 2);
        Checks.due("ghost of 0, 2 and 3 is 5", x.ghosts(1 << 0 | 1 << 2 | 1 << 3, 0), 1);
    }

    private static final String[] WORDS = {"bounce", "term", "chording", "twice"};
    private static final int[] MOST = {9, 99, 20, 40};

    private static void settings() {
        Checks.sentence("BOUNCE 1 .. 9, TERM 1 .. 99, CHORDING 1 .. 20, TWICE 1 .. 40, DELAY 1 .. 99 and RATE 1 .. 20");
        for (int i = 0; i < WORDS.length; i++) {
            bounds(BOARD, WORDS[i] + " %;", 1, MOST[i]);
            Checks.due("least " + WORDS[i], Checks.board(BOARD + WORDS[i] + " 1;").count(15 + i), 1);
            Checks.due("most " + WORDS[i], Checks.board(BOARD + WORDS[i] + " " + MOST[i] + ";").count(15 + i), MOST[i]);
        }
        bounds(BOARD, "repeat % 1;", 1, 99);
        bounds(BOARD, "repeat 1 %;", 1, 20);
        KeyMatrix x = Checks.board(BOARD + "repeat 99 20;");
        Checks.due("most DELAY", x.count(20), 99);
        Checks.due("most RATE", x.count(21), 20);
    }

    private static void settingsNotTold() {
        Checks.sentence("(2), (8), (3), (6), (20) and (5): in brackets if not told");
        int[] first = {2, 8, 3, 6, 0, 20, 5};
        for (int i = 0; i < first.length; i++) {
            Checks.due("count(" + (15 + i) + ")", Checks.board(BOARD).count(15 + i), first[i]);
        }
    }

    private static void lastSettingCounts() {
        Checks.sentence("the last ones");
        for (int i = 0; i < WORDS.length; i++) {
            String text = BOARD + WORDS[i] + " " + MOST[i] + ";" + WORDS[i] + " 1;" + WORDS[i] + " 4;";
            Checks.due(WORDS[i], Checks.board(text).count(15 + i), 4);
        }
        KeyMatrix x = Checks.board(BOARD + "repeat 99 20;repeat 3 4;");
        Checks.due("DELAY", x.count(20), 3);
        Checks.due("RATE", x.count(21), 4);
    }

    private static void layersOfKeys() {
        Checks.sentence("'key': a LAYER 0 .. 3");
        bounds(BOARD, "key % 0 code 1;", 0, 3);
        for (int layer = 0; layer < 4; layer++) {
            KeyMatrix x = Checks.board(BIG + "key " + layer + " 23 code 77;");
            for (int other = 0; other < 4; other++) {
                Checks.due("layer " + other, x.deed(other, 23, 1), other == layer ? 77 : -1);
                Checks.due("layer " + other + " of key 22", x.deed(other, 22, 1), -1);
            }
        }
    }

    private static void lastKeyCounts() {
        Checks.sentence("what it does there (the last one)");
        KeyMatrix x = Checks.board(BOARD + "key 1 0 hold 4 layer 2;key 1 0 code 9;key 1 1 code 9;key 1 1 nothing;"
                + "key 0 0 code 3;key 0 0 below;");
        Checks.due("word", x.deed(1, 0, 0), 0);
        Checks.due("first", x.deed(1, 0, 1), 9);
        Checks.due("no second", x.deed(1, 0, 2), -1);
        Checks.due("nothing", x.deed(1, 1, 0), 4);
        Checks.due("no first", x.deed(1, 1, 1), -1);
        Checks.due("below", x.deed(0, 0, 0), 5);
    }

    private static void keysNotTold() {
        Checks.sentence("not told: on LAYER 0 'nothing', else 'below'");
        KeyMatrix x = Checks.board(BIG);
        for (int layer = 0; layer < 4; layer++) {
            for (int key = 0; key < 24; key += 23) {
                Checks.due("deed(" + layer + ", " + key + ", 0)", x.deed(layer, key, 0), layer == 0 ? 4 : 5);
                Checks.due("deed(" + layer + ", " + key + ", 1)", x.deed(layer, key, 1), -1);
                Checks.due("deed(" + layer + ", " + key + ", 2)", x.deed(layer, key, 2), -1);
            }
        }
    }

    private static void deedNumbers() {
        Checks.sentence("Codes 1 .. 200; MODS 0 .. 7; LAYERS of a DEED 1 .. 3; 'play' a MACRO 0 .. 3 (of a key)");
        for (String line : new String[] {"code %;", "hold % layer 1;", "hold % mod 1;", "double % 1;", "double 1 %;"}) {
            bounds(BOARD, "key 2 1 " + line, 1, 200);
        }
        for (String line : new String[] {"mod %;", "hold 1 mod %;"}) {
            bounds(BOARD, "key 2 1 " + line, 0, 7);
        }
        for (String line : new String[] {"layer %;", "toggle %;", "hold 1 layer %;"}) {
            bounds(BOARD, "key 2 1 " + line, 1, 3);
        }
        bounds(BOARD, "key 2 1 play %;", 0, 3);
    }

    private static void chordNumbers() {
        Checks.sentence("Codes 1 .. 200; MODS 0 .. 7; 'play' a MACRO 0 .. 3 (of a CHORD)");
        bounds(BOARD, "chord 0 1 code %;", 1, 200);
        bounds(BOARD, "chord 0 1 mod %;", 0, 7);
        bounds(BOARD, "chord 0 1 play %;", 0, 3);
    }

    private static void chordDeeds() {
        Checks.sentence("A CHORD's DEED: code, mod or play; WRONG (at the DEED's word)");
        for (String deed : new String[] {"code 1", "mod 1", "play 1"}) {
            Checks.fault(BOARD + "chord 0 1 " + deed + ";", 0, -1);
        }
        for (String deed : new String[] {"layer 1", "toggle 1", "nothing", "below", "hold 1 layer 1", "hold 1 mod 1",
            "double 1 1", "layer 0", "hold 0 mod 9"}) {
            Checks.fault(BOARD + "chord 0 1 " + deed + ";", 5, 20);
        }
        Checks.fault(BOARD + "chord 0 1 hold 1;", 1, 26);
        Checks.fault(BOARD + "chord 0 1 nothing 1;", 1, 28);
    }

    private static String chords(int many) {
        StringBuilder text = new StringBuilder();
        for (int i = 0; i < many; i++) {
            text.append("chord ").append(2 * i).append(' ').append(2 * i + 1).append(" code ").append(i + 1).append(';');
        }
        return text.toString();
    }

    private static void chordsAtMost() {
        Checks.sentence("4 CHORDS at most; ROOM: a 5th chord (at the line's first word)");
        KeyMatrix x = Checks.board(BIG + chords(4));
        Checks.due("four", x.chord(-1, 0), 4);
        Checks.due("the fourth", x.chord(3, 1), 7);
        Checks.fault(BIG + chords(5), 2, BIG.length() + chords(4).length());
        Checks.fault(BIG + chords(4) + "six;\n" + chords(1), 2, BIG.length() + chords(4).length() + 5);
        Checks.fault(BIG + chords(4) + "chord", 2, BIG.length() + chords(4).length());
    }

    private static void fifthChordFirst() {
        Checks.sentence("ROOM: a 5th chord (whatever is wrong with those ahead)");
        String four = times("chord 99 99 layer 9;", 4);
        Checks.fault(BIG + four, 5, 16);
        Checks.fault(BIG + four + "chord 0 1 code 1;", 2, BIG.length() + four.length());
    }

    private static void macrosAtMost() {
        Checks.sentence("MACROS, 4 at most, numbered from 0 on as they stand; ROOM: a 5th macro (at the line's first word)");
        String four = "macro 11;six;macro 12;macro 13;macro 14;";
        KeyMatrix x = Checks.board(BOARD + four);
        Checks.due("four", x.count(19), 4);
        for (int i = 0; i < 4; i++) {
            Checks.due("macro(" + i + ", 0)", x.macro(i, 0), 11 + i);
        }
        Checks.fault(BOARD + four + "macro 15;", 2, BOARD.length() + four.length());
        Checks.fault(BOARD + four + "six; macro", 2, BOARD.length() + four.length() + 5);
        Checks.fault(BOARD + times("macro 0;", 5), 2, BOARD.length() + 4 * 8);
        Checks.fault(BOARD + times("macro 0;", 4), 5, BOARD.length() + 6);
    }

    private static void codesAtMost() {
        Checks.sentence("codes, 8 at most; ROOM: a 9th code of one (at it)");
        String eight = "macro 1 2 3 4 5 6 7 8";
        KeyMatrix x = Checks.board(BOARD + times(eight + ";", 4));
        for (int i = 0; i < 4; i++) {
            Checks.due("macro(" + i + ", -1)", x.macro(i, -1), 8);
            Checks.due("macro(" + i + ", 7)", x.macro(i, 7), 8);
            Checks.due("macro(" + i + ", 8)", x.macro(i, 8), -1);
        }
        int ninth = BOARD.length() + eight.length() + 1;
        Checks.fault(BOARD + eight + " 9;", 2, ninth);
        Checks.fault(BOARD + eight + " 9", 2, ninth);
        Checks.fault(BOARD + eight + " 0;", 2, ninth);
        Checks.fault(BOARD + eight + " 9999;", 2, ninth);
        Checks.fault(BOARD + eight + " 99999;", 1, ninth);
        Checks.fault(BOARD + eight + " code 9;", 1, ninth);
        Checks.fault(BOARD + eight.replace('1', '0') + " 9;", 2, ninth);
        Checks.fault(BOARD + times(eight + ";", 3) + eight + " 9;", 2, ninth + 3 * (eight.length() + 1));
        Checks.fault(BOARD + "macro;", 1, BOARD.length() + 5);
    }

    private static void codeNumbers() {
        Checks.sentence("Codes 1 .. 200 (of a MACRO)");
        bounds(BOARD, "macro %;", 1, 200);
        bounds(BOARD, "macro 1 %;", 1, 200);
        bounds(BOARD, "macro 1 2 3 4 5 6 7 %;", 1, 200);
    }

    private static void tokensAtMost() {
        Checks.sentence("ROOM: a 401st TOKEN");
        String full = BOARD + times("six;", 198);
        Checks.fault(full, 0, -1);
        Checks.fault(full + times(" \t\r\n", 50), 0, -1);
        Checks.fault(full + " six;", 2, full.length() + 1);
        Checks.fault(full + "six", 2, full.length());
        String odd = BOARD + times("six;", 196) + "bounce 5;";
        Checks.fault(odd, 0, -1);
        Checks.fault(odd + "six;", 2, odd.length() + 3);
        Checks.fault(BOARD + times("six;", 197) + "bounce 5;", 2, BOARD.length() + 197 * 4 + 8);
        Checks.fault(BOARD + times("six;", 197) + "macro 5 6;", 2, BOARD.length() + 197 * 4 + 8);
        Checks.fault(BOARD + times("six;", 197) + "macro 5;", 2, BOARD.length() + 197 * 4 + 7);
        Checks.fault(BOARD + times("six;", 198) + chords(1), 2, full.length());
        String macros = BOARD + times("macro 1 2 3 4 5 6 7 8;", 4) + times("six;", 178);
        Checks.fault(macros, 0, -1);
        Checks.fault(macros + "macro 1;", 2, macros.length());
    }

    private static void tokensAtMostBySyntax() {
        Checks.sentence("ROOM: a 401st TOKEN; of one place the least: SYNTAX");
        String full = BOARD + times("six;", 198);
        for (String none : new String[] {"7", ";", "board", "code", "sixx", "!", "12345"}) {
            Checks.fault(full + none, 1, full.length());
        }
        String cut = BOARD + times("six;", 197) + "bounce 5";
        Checks.fault(cut, 1, cut.length());
        Checks.fault(cut + " 6;", 1, cut.length() + 1);
        String early = BOARD + "six six;" + times("six;", 198);
        Checks.fault(early, 1, BOARD.length() + 4);
        Checks.fault(full + "six six !", 2, full.length());
    }

    private static void placeIsFirst() {
        Checks.sentence("FAULTS of a text, the first by its place");
        Checks.fault(BOARD + "bounce 0;term 0;", 5, 17);
        Checks.fault(BOARD + "term 1;bounce 0;term 0;", 5, 24);
        Checks.fault("board 1 4;chord 0 0 code 0;", 3, 18);
        Checks.fault("board 1 4;chord 0 9 code 0;chord 0 1 code 1;", 5, 18);
        Checks.fault("board 1 4;bounce 0;chord 1 1 code 1;", 5, 17);
        Checks.fault("board 1 4;chord 1 1 code 1;bounce 0;", 3, 18);
        Checks.fault("board 1 2;macro 1 2 3 4 5 6 7 8 9;six six;", 2, 32);
        Checks.fault("board 1 2;six six;macro 1 2 3 4 5 6 7 8 9;", 1, 14);
    }

    private static void leastOfOnePlace() {
        Checks.sentence("of one place the least");
        // A word that starts no line where a 401st token stands; 9 codes, and the ninth is none.
        String full = BOARD + times("six;", 198);
        Checks.fault(full + "below", 1, full.length());
        Checks.fault(BOARD + "macro 1 2 3 4 5 6 7 8 six;", 1, 32);
        String macros = BOARD + times("macro 1;", 4);
        Checks.fault(macros + "macros 1;", 1, macros.length());
    }

    private static void syntaxAndRoomBeforeOthers() {
        Checks.sentence("If there is none, likewise: TWICE, WRONG");
        Checks.fault("board 0 0;chord 1 1 layer 0;bounce 0;x", 1, 37);
        Checks.fault("board 0 0;bounce 0", 1, 18);
        Checks.fault("board 0 0;bounce 0;macro 0 0 0 0 0 0 0 0 0;", 2, 41);
        Checks.fault("board 4 4;chord 1 1 code 1;chord 2 3 code 1 ", 1, 44);
    }

    private static void endIsLength() {
        Checks.sentence("(a byte; the text's end: its length)");
        Checks.fault("board 1 2;six", 1, 13);
        Checks.fault("board 1 2;six \n ", 1, 16);
        Checks.fault("board", 1, 5);
        Checks.fault("\t", 1, 1);
    }

    private static void unlikeKeys() {
        Checks.sentence("TWICE: (at it) a chord's KEY that is the other one");
        Checks.fault("board 1 4;chord 3 3 code 1;", 3, 18);
        Checks.fault("board 1 4;chord 0 0 code 1;", 3, 18);
        Checks.fault("board 1 4;chord 0 0000 layer 1;", 3, 18);
        Checks.fault("board 1 4;chord 9 9 code 1;", 5, 16);
        Checks.fault("board 1 4;chord 2 3 code 1;", 0, -1);
    }

    private static void keysOfChordsAhead() {
        Checks.sentence("TWICE: (at it) a chord's KEY in a chord told ahead (whatever is wrong with that)");
        String one = "board 2 4;chord 0 1 code 1;";
        Checks.fault(one + "chord 1 2 code 1;", 3, 33);
        Checks.fault(one + "chord 0 2 code 1;", 3, 33);
        Checks.fault(one + "chord 2 0 code 1;", 3, 35);
        Checks.fault(one + "chord 2 1 code 1;", 3, 35);
        Checks.fault(one + "chord 2 3 code 1;chord 4 5 mod 1;chord 6 3 mod 1;", 3, 68);
        Checks.fault(one + "chord 2 3 code 1;chord 4 5 mod 1;chord 6 7 mod 1;", 0, -1);
        Checks.fault("board 2 4;chord 0 1 layer 1;chord 1 2 code 1;", 5, 20);
        Checks.fault("board 2 4;chord 0 0 code 1;chord 0 2 code 1;", 3, 18);
        Checks.fault("board 2 4;chord 0 1 code 1;key 0 0 code 1;key 0 1 code 1;", 0, -1);
    }

    private static void wrongBoardHidesNothing() {
        Checks.sentence("KEYS by ROWS and COLUMNS; not asked if one of these is wrong");
        Checks.fault("board 5 6;key 0 99 code 0;", 5, 6);
        Checks.fault("board 4 7;key 0 99 code 0;", 5, 8);
        Checks.fault("board 0 0;chord 99 98 code 1;", 5, 6);
        Checks.fault("board 0 6;key 0 0 code 1;", 5, 6);
    }

    private static void faultKeepsAll() {
        Checks.sentence("A text with a FAULT changes nothing but the tape");
        String[] faulty = {"", "board 2 2;six", "board 2 2;" + times("six;", 199), "board 3 3;diodes;six;chord 3 3 code 1;",
            "board 2 2;bounce 9;term 9;key 0 0 code 9;macro 9;repeat 9 9;chording 9;twice 9;chord 0 1 mod 9;"};
        for (String text : faulty) {
            KeyMatrix x = Checks.board("board 1 2;bounce 1;key 0 0 code 7;key 0 1 toggle 1;macro 5;");
            x.press(0, true);
            x.press(1, true);
            x.tick(2);
            x.hold(2);
            Checks.put(x, text);
            Checks.yes("a fault", x.read() != 0);
            int[] counts = {1, 2, 2, 1, 3, 2, 3, 3, 3, 0, 2, 0, 1, 0, 0, 1, 8, 3, 6, 1, 20, 5};
            for (int what = 0; what < counts.length; what++) {
                Checks.due("count(" + what + ")", x.count(what), counts[what]);
            }
            Checks.sent(x, 0, 7);
            Checks.due("deed", x.deed(0, 0, 1), 7);
            Checks.due("chords", x.chord(-1, 0), 0);
            Checks.due("macro", x.macro(0, 0), 5);
            Checks.yes("restore", x.restore(2));
        }
    }

    private static void goodTextClearsAll() {
        Checks.sentence("else all is as at first but what it tells");
        KeyMatrix x = Checks.board("board 1 4;bounce 2;term 99;twice 9;repeat 1 1;diodes;six;key 0 0 code 7;key 0 1 layer 1;"
                + "key 0 2 toggle 2;key 0 3 hold 1 mod 1;key 1 3 hold 1 mod 1;macro 5;");
        x.press(0, true);
        x.tick(2);
        x.press(0, false);
        x.tick(2);
        Checks.due("a stroke", x.strokes(0, 1), 2);
        Checks.down(x, 0, 1, 2);
        x.tick(9);
        x.press(3, true);
        x.tick(4);
        x.press(0, false);
        x.tick(1);
        Checks.due("a waiting event", x.event(-1, 0), 1);
        Checks.due("once unlike", x.key(0, 4), 1);
        Checks.retell(x, "board 1 4;");
        int[] counts = {1, 4, 0, 0, 1, 0, 0, 0, 0, 0, 0, 0, 0, 0, 0, 2, 8, 3, 6, 0, 20, 5};
        for (int what = 0; what < counts.length; what++) {
            Checks.due("count(" + what + ")", x.count(what), counts[what]);
        }
        for (int key = 0; key < 4; key++) {
            for (int what = 0; what < 6; what++) {
                Checks.due("key(" + key + ", " + what + ")", x.key(key, what), 0);
            }
            Checks.due("strokes", x.strokes(key, 0), 0);
            Checks.due("longest", x.strokes(key, 1), 0);
            Checks.due("latest event", x.strokes(key, 2), -1);
            Checks.does(x, key, -1, -1);
            Checks.due("deed", x.deed(-1, key, 0), 4);
            Checks.due("deed above", x.deed(1, key, 0), 5);
        }
        Checks.due("no event", x.event(-1, 0), 0);
        Checks.due("no report", x.report(0, 0), -1);
        Checks.due("no macro", x.macro(0, -1), -1);
        Checks.sent(x, 0);
        Checks.host(x, -1, -1, 0, -1);
        Checks.due("nothing comes", x.tick(50), 0);
    }

    private static void goodTextClearsBarred() {
        Checks.sentence("else all is as at first (none is SEEN or BARRED)");
        for (String diodes : new String[] {"", "diodes;"}) {
            KeyMatrix x = Checks.board("board 2 2;");
            x.press(0, true);
            x.press(1, true);
            x.press(2, true);
            Checks.due("BARRED", x.count(9), 15);
            Checks.retell(x, "board 2 2;bounce 1;" + diodes);
            Checks.due("SEEN", x.count(8), 0);
            Checks.due("BARRED", x.count(9), 0);
            x.press(3, true);
            Checks.due("SEEN", x.count(8), 8);
            Checks.due("BARRED", x.count(9), 0);
            x.tick(1);
            Checks.due("down", x.count(6), 8);
        }
    }

    private static void goodTextClearsOrder() {
        Checks.sentence("else all is as at first (no KEY does anything)");
        String text = "board 1 3;bounce 1;chording 1;key 0 0 code 1;key 0 1 code 2;key 0 2 toggle 3;";
        KeyMatrix x = Checks.board(text + "chord 0 1 code 50;");
        Checks.down(x, 1, 0);
        x.tick(1);
        Checks.sent(x, 0, 2, 1);
        Checks.strike(x, 2, 1);
        Checks.retell(x, text);
        Checks.due("no CHORD", x.chord(-1, 0), 0);
        Checks.due("TOGGLED", x.count(5), 0);
        Checks.down(x, 0, 1);
        Checks.sent(x, 0, 1, 2);
        Checks.up(x, 0);
        Checks.sent(x, 0, 2);
    }

    private static void goodTextTellsAnew() {
        Checks.sentence("else all is as at first but what it tells (as much as another text told, or less)");
        KeyMatrix x = Checks.board(BIG + chords(4) + times("macro 1 2 3 4 5 6 7 8;", 4) + "key 1 0 code 5;");
        Checks.retell(x, BIG + "macro 9;" + "chord 7 1 mod 3;");
        Checks.due("MACROS", x.count(19), 1);
        Checks.due("codes", x.macro(0, -1), 1);
        Checks.due("code", x.macro(0, 0), 9);
        Checks.due("CHORDS", x.chord(-1, 0), 1);
        Checks.due("its KEY", x.chord(0, 0), 7);
        Checks.due("not told", x.deed(1, 0, 0), 5);
        Checks.retell(x, BIG + times("macro 8 7;", 4) + chords(4));
        Checks.due("MACROS", x.count(19), 4);
        Checks.due("codes", x.macro(3, -1), 2);
        Checks.due("CHORDS", x.chord(-1, 0), 4);
        // A FAULT in between, whose words stood where none stand now.
        Checks.fault(x, BIG + chords(4) + "chord 8 9 code 1;", 2, BIG.length() + chords(4).length());
        Checks.fault(x, BIG + chords(4) + ";", 1, BIG.length() + chords(4).length());
        Checks.fault(x, BIG + times("macro 1;", 4) + "macro 1;", 2, BIG.length() + 32);
        Checks.fault(x, BIG + times("macro 1;", 4) + "7", 1, BIG.length() + 32);
        Checks.fault(x, BIG + times("macro 1;", 4) + "!", 1, BIG.length() + 32);
        Checks.due("MACROS are as they were", x.macro(3, 1), 7);
    }

    private static void goodTextClearsSlots() {
        Checks.sentence("SLOTS hold nothing");
        KeyMatrix x = Checks.board(BOARD);
        x.hold(0);
        x.hold(1);
        x.hold(2);
        Checks.retell(x, BOARD);
        Checks.due("count(12)", x.count(12), 0);
        for (int slot = 0; slot < 3; slot++) {
            Checks.no("restore(" + slot + ")", x.restore(slot));
        }
        KeyMatrix none = new KeyMatrix();
        none.hold(1);
        Checks.retell(none, BOARD);
        Checks.no("restore(1)", none.restore(1));
        Checks.due("ROWS", none.count(0), 1);
    }
}
