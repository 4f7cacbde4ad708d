/**
 * A board of keys in rows and columns: what its switches show, what its keys do, what the host is sent.
 * The document DOC.md names the terms; the names here are those of its words.
 */
public final class KeyMatrix {
    public static final int NONE = -1;

    // What does, host and strokes answer where -1 has a meaning of its own; a count of an OVER report.
    private static final int OTHERS = -2;
    private static final int OVER = -2;

    private static final int TAPE_BYTES = 2000;
    private static final int FED_BYTES = 20;
    private static final int SLOTS = 3;
    private static final int TICKS_AT_ONCE = 50;
    private static final int TICKS_AHEAD = 120;

    private static final int ROWS = 4;
    private static final int COLUMNS = 6;
    private static final int KEYS = ROWS * COLUMNS;
    private static final int LAYERS = 4;
    private static final int CHORDS = 4;
    private static final int MACROS = 4;
    private static final int MACRO_CODES = 8;
    private static final int CODES_OF_SIX = 6;

    // The faults of a text.
    private static final int SYNTAX = 1;
    private static final int ROOM = 2;
    private static final int TOLD_TWICE = 3;
    private static final int WRONG = 5;

    // The words of a deed, as deed() tells them; the first three are also what a key does.
    private static final int CODE = 0;
    private static final int MOD = 1;
    private static final int LAYER = 2;
    private static final int TOGGLE = 3;
    private static final int NOTHING = 4;
    private static final int BELOW = 5;
    private static final int HOLD_LAYER = 6;
    private static final int HOLD_MOD = 7;
    private static final int DOUBLE = 8;
    private static final int PLAY = 9;

    private final byte[] tape;
    private int tapeLength;
    private int faultPlace;
    private final TextReader reader;
    private final Board board;
    private final Wiring wiring;
    private final Course course;
    private final Course preview;
    private final Course[] slots;
    private int slotsHeld;

    public KeyMatrix() {
        tape = new byte[TAPE_BYTES];
        tapeLength = 0;
        faultPlace = NONE;
        reader = new TextReader();
        board = new Board();
        wiring = new Wiring();
        course = new Course(board);
        preview = new Course(board);
        slots = new Course[SLOTS];
        for (int slot = 0; slot < SLOTS; slot++) {
            slots[slot] = new Course(board);
        }
        slotsHeld = 0;
    }

    public int feed(int a, int b, int c, int d, int e) {
        if (tapeLength + FED_BYTES > TAPE_BYTES) {
            return NONE;
        }
        appendFour(a);
        appendFour(b);
        appendFour(c);
        appendFour(d);
        appendFour(e);
        return tapeLength;
    }

    private void appendFour(int four) {
        for (int shift = 24; shift >= 0 && tapeLength < TAPE_BYTES; shift -= 8) {
            tape[tapeLength] = (byte) (four >>> shift);
            tapeLength++;
        }
    }

    public int back(int n) {
        if (n < 0 || n > tapeLength) {
            return NONE;
        }
        tapeLength -= n;
        return tapeLength;
    }

    public int read() {
        int fault = reader.readTape(tape, tapeLength);
        tapeLength = 0;
        faultPlace = reader.faultPlace;
        if (fault == 0) {
            board.copyFrom(reader.draft);
            course.clear();
            slotsHeld = 0;
        }
        return fault;
    }

    public int place() {
        return faultPlace;
    }

    public boolean press(int key, boolean closed) {
        Scan scan = course.scan;
        if (!board.hasKey(key) || isIn(scan.closed, key) == closed) {
            return false;
        }
        scan.closed ^= 1 << key;
        wiring.follow(board, scan.closed);
        scan.seen = wiring.seen;
        scan.barred = wiring.barred;
        return true;
    }

    public int tick(int n) {
        if (n < 1 || n > TICKS_AT_ONCE || board.keys() == 0) {
            return NONE;
        }
        int before = course.reports.total;
        for (int done = 0; done < n; done++) {
            course.passTick();
        }
        return course.reports.total - before;
    }

    public int key(int key, int what) {
        if (!board.hasKey(key)) {
            return NONE;
        }
        Scan scan = course.scan;
        switch (what) {
            case 0: return bitOf(scan.closed, key);
            case 1: return bitOf(scan.seen, key);
            case 2: return bitOf(scan.barred, key);
            case 3: return bitOf(scan.down, key);
            case 4: return scan.unlike[key];
            case 5: return floatBits(scan.steady[key]);
            default: return NONE;
        }
    }

    public int deed(int layer, int key, int what) {
        if (!board.hasKey(key)) {
            return NONE;
        }
        Deed deed = layer == NONE ? board.deedIn(course.activeLayers(), key) : board.toldDeed(layer, key);
        if (deed == null) {
            return NONE;
        }
        switch (what) {
            case 0: return deed.kind;
            case 1: return deed.first;
            case 2: return deed.second;
            default: return NONE;
        }
    }

    public int does(int key, int what) {
        if (!board.hasKey(key)) {
            return OTHERS;
        }
        switch (what) {
            case 0: return course.doing.kind[key];
            case 1: return course.doing.which[key];
            default: return OTHERS;
        }
    }

    public int event(int i, int what) {
        Queue queue = course.queue;
        if (i == NONE) {
            return queue.size;
        }
        if (i < 0 || i >= queue.size) {
            return NONE;
        }
        switch (what) {
            case 0: return queue.keyAt(i);
            case 1: return queue.isDownAt(i) ? 1 : 0;
            case 2: return queue.tickAt(i);
            default: return NONE;
        }
    }

    public int report(int i, int what) {
        Reports reports = course.reports;
        int row = reports.rowOf(i);
        if (row == NONE) {
            return NONE;
        }
        switch (what) {
            case 0: return reports.ticks[row];
            case 1: return reports.mods[row];
            case 2: return reports.counts[row];
            default: return reports.codeAt(row, what < 3 ? NONE : what - 3);
        }
    }

    public int sent(int what) {
        Doing doing = course.doing;
        doing.gather(NONE);
        switch (what) {
            case 0: return doing.mods;
            case 1: return doing.codeCount;
            default: return what < 2 || what - 2 >= doing.codeCount ? NONE : doing.codes[what - 2];
        }
    }

    public int host(int what) {
        Reports reports = course.reports;
        switch (what) {
            case 0: return reports.latest;
            case 1: return reports.since;
            case 2: return reports.repeats;
            case 3: return reports.repeatsOfLatest;
            default: return OTHERS;
        }
    }

    public int strokes(int key, int what) {
        if (!board.hasKey(key)) {
            return OTHERS;
        }
        Scan scan = course.scan;
        switch (what) {
            case 0: return scan.strokes[key];
            case 1: return scan.longest[key];
            case 2: return scan.lastEvent[key];
            default: return OTHERS;
        }
    }

    public int chord(int i, int what) {
        if (i == NONE) {
            return board.chordCount;
        }
        if (i < 0 || i >= board.chordCount) {
            return NONE;
        }
        switch (what) {
            case 0: return board.chordFirst[i];
            case 1: return board.chordOther[i];
            case 2: return course.doing.partner[board.chordFirst[i]] == NONE ? 0 : 1;
            default: return NONE;
        }
    }

    public int macro(int i, int k) {
        if (i < 0 || i >= board.macroCount) {
            return NONE;
        }
        return k == NONE ? board.macroLengths[i] : board.macroCode(i, k);
    }

    public int ghosts(int set, int what) {
        // A negative set keeps its highest bit: no board has so many keys.
        if (set >>> board.keys() != 0) {
            return NONE;
        }
        wiring.follow(board, set);
        switch (what) {
            case 0: return Integer.bitCount(wiring.seen & ~set);
            case 1: return Integer.bitCount(wiring.barred);
            case 2: return wiring.parts;
            default: return NONE;
        }
    }

    public int ahead(int n, int what) {
        if (n < 1 || n > TICKS_AHEAD || what < 0 || what > 4 || board.keys() == 0) {
            return NONE;
        }
        preview.copyFrom(course);
        for (int done = 0; done < n; done++) {
            preview.passTick();
        }
        preview.doing.gather(NONE);
        switch (what) {
            case 0: return preview.reports.total - course.reports.total;
            case 1: return preview.doing.mods;
            case 2: return preview.doing.codeCount;
            case 3: return preview.activeLayers();
            default: return preview.queue.size;
        }
    }

    public boolean hold(int slot) {
        if (slot < 0 || slot >= SLOTS) {
            return false;
        }
        slots[slot].copyFrom(course);
        slotsHeld |= 1 << slot;
        return true;
    }

    public boolean restore(int slot) {
        if (slot < 0 || slot >= SLOTS || !isIn(slotsHeld, slot)) {
            return false;
        }
        course.copyFrom(slots[slot]);
        return true;
    }

    public int count(int what) {
        switch (what) {
            case 0: return board.rows;
            case 1: return board.columns;
            case 2: return course.now;
            case 3: return course.reports.total;
            case 4: return course.activeLayers();
            case 5: return course.doing.toggled;
            case 6: return course.scan.down;
            case 7: return course.scan.closed;
            case 8: return course.scan.seen;
            case 9: return course.scan.barred;
            case 10: return course.queue.total;
            case 11: return tapeLength;
            case 12: return Integer.bitCount(slotsHeld);
            default: return setting(what);
        }
    }

    private int setting(int what) {
        switch (what) {
            case 13: return board.diodes ? 1 : 0;
            case 14: return board.six ? 1 : 0;
            case 15: return board.bounce;
            case 16: return board.term;
            case 17: return board.chording;
            case 18: return board.twice;
            case 19: return board.macroCount;
            case 20: return board.delay;
            case 21: return board.rate;
            default: return NONE;
        }
    }

    private static boolean isIn(int set, int number) {
        return (set >>> number & 1) != 0;
    }

    private static int bitOf(int set, int number) {
        return set >>> number & 1;
    }

    // The library that the language leaves has no floatToIntBits; value is 0 or more, and less than 2.
    private static int floatBits(float value) {
        float rest = value;
        int exponent = 127;
        while (rest < 1.0f && exponent > 1) {
            rest = rest * 2.0f;
            exponent--;
        }
        if (rest < 1.0f) {
            return (int) (rest * 8388608.0f);
        }
        return (exponent << 23) + (int) ((rest - 1.0f) * 8388608.0f);
    }

    /** The words of a text: least and most bound the first number behind a word, where one comes. */
    private enum Word {
        BOARD("board", false, NONE, 1, ROWS),
        DIODES("diodes", true, NONE, 0, 0),
        SIX("six", true, NONE, 0, 0),
        BOUNCE("bounce", true, NONE, 1, 9),
        TERM("term", true, NONE, 1, 99),
        CHORDING("chording", true, NONE, 1, 20),
        TWICE("twice", true, NONE, 1, 40),
        REPEAT("repeat", true, NONE, 1, 99),
        KEY("key", true, NONE, 0, LAYERS - 1),
        CHORD("chord", true, NONE, 0, KEYS - 1),
        MACRO("macro", true, NONE, 1, 200),
        CODE("code", false, KeyMatrix.CODE, 1, 200),
        MOD("mod", false, KeyMatrix.MOD, 0, 7),
        LAYER("layer", false, KeyMatrix.LAYER, 1, LAYERS - 1),
        TOGGLE("toggle", false, KeyMatrix.TOGGLE, 1, LAYERS - 1),
        NOTHING("nothing", false, KeyMatrix.NOTHING, 0, 0),
        BELOW("below", false, KeyMatrix.BELOW, 0, 0),
        HOLD("hold", false, HOLD_LAYER, 1, 200),
        DOUBLE("double", false, KeyMatrix.DOUBLE, 1, 200),
        PLAY("play", false, KeyMatrix.PLAY, 0, MACROS - 1);

        private final String text;
        private final boolean startsLine;
        private final int deed;
        private final int least;
        private final int most;

        Word(String text, boolean startsLine, int deed, int least, int most) {
            this.text = text;
            this.startsLine = startsLine;
            this.deed = deed;
            this.least = least;
            this.most = most;
        }
    }

    /** A text cut into tokens, as far as a text can be good: to the first that is none, or the 401st. */
    private static final class Tokens {
        private static final int MOST = 400;
        private static final int INT_DIGITS = 4;
        private static final int IS_END = 0;
        private static final int IS_WORD = 1;
        private static final int IS_INT = 2;
        private static final int IS_SIGN = 3;
        private static final int IS_NONE = 4;
        private static final Word[] WORDS = Word.values();

        private final int[] kinds = new int[MOST + 1];
        private final int[] places = new int[MOST + 1];
        private final int[] numbers = new int[MOST + 1];
        private final Word[] words = new Word[MOST + 1];
        private int size;
        private int end;

        void cut(byte[] text, int length) {
            size = 0;
            end = length <= text.length ? length : text.length;
            int at = skipBlanks(text, 0);
            while (at < end && size <= MOST) {
                places[size] = at;
                words[size] = null;
                numbers[size] = 0;
                int behind = at + 1;
                if (isLetter(text[at])) {
                    behind = cutWord(text, at);
                } else if (isDigit(text[at])) {
                    behind = cutInt(text, at);
                } else {
                    kinds[size] = text[at] == ';' ? IS_SIGN : IS_NONE;
                }
                size++;
                at = skipBlanks(text, behind);
            }
        }

        private int skipBlanks(byte[] text, int from) {
            int at = from;
            while (at < end && (text[at] == 32 || text[at] == 9 || text[at] == 10 || text[at] == 13)) {
                at++;
            }
            return at;
        }

        private int cutWord(byte[] text, int from) {
            int at = from;
            while (at < end && isLetter(text[at])) {
                at++;
            }
            kinds[size] = IS_WORD;
            for (Word word : WORDS) {
                if (isSpelt(word.text, text, from, at)) {
                    words[size] = word;
                }
            }
            return at;
        }

        private int cutInt(byte[] text, int from) {
            int at = from;
            int number = 0;
            while (at < end && isDigit(text[at])) {
                if (at - from < INT_DIGITS) {
                    number = number * 10 + (text[at] - '0');
                }
                at++;
            }
            kinds[size] = at - from <= INT_DIGITS ? IS_INT : IS_NONE;
            numbers[size] = number;
            return at;
        }

        private static boolean isSpelt(String word, byte[] text, int from, int behind) {
            if (word.length() != behind - from) {
                return false;
            }
            for (int i = 0; i < word.length(); i++) {
                if (word.charAt(i) != text[from + i]) {
                    return false;
                }
            }
            return true;
        }

        private static boolean isLetter(int sign) {
            return sign >= 'a' && sign <= 'z';
        }

        private static boolean isDigit(int sign) {
            return sign >= '0' && sign <= '9';
        }

        int kindAt(int i) {
            return i >= 0 && i < size ? kinds[i] : IS_END;
        }

        int placeAt(int i) {
            return i >= 0 && i < size ? places[i] : end;
        }

        int numberAt(int i) {
            return i >= 0 && i < size ? numbers[i] : 0;
        }

        Word wordAt(int i) {
            return i >= 0 && i < size ? words[i] : null;
        }
    }

    /** Reads a text into a draft of a board; a take method answers whether the text can go on. */
    private static final class TextReader {
        private final Tokens tokens = new Tokens();
        private final Deed told = new Deed();
        private final Board draft = new Board();
        private int at;
        private int number;
        private int fault;
        private int faultToken;
        private int faultPlace;
        private int laterFault;
        private int laterToken;

        int readTape(byte[] tape, int length) {
            tokens.cut(tape, length);
            draft.clear();
            at = 0;
            fault = 0;
            laterFault = 0;
            boolean good = takeBoard();
            // A line takes a token at least.
            for (int line = 0; line <= Tokens.MOST && good && tokens.kindAt(at) != Tokens.IS_END; line++) {
                good = takeLine();
            }
            if (fault == 0) {
                fault = laterFault;
                faultToken = laterToken;
            }
            faultPlace = fault == 0 ? NONE : tokens.placeAt(faultToken);
            return fault;
        }

        private boolean takeBoard() {
            if (tokens.wordAt(at) != Word.BOARD) {
                return fail(SYNTAX);
            }
            if (!takeToken(Tokens.IS_WORD) || !takeNumber(1, ROWS)) {
                return false;
            }
            draft.rows = number;
            if (!takeNumber(1, COLUMNS)) {
                return false;
            }
            draft.columns = number;
            return takeToken(Tokens.IS_SIGN);
        }

        private boolean takeLine() {
            Word word = tokens.wordAt(at);
            if (word == null || !word.startsLine) {
                return fail(SYNTAX);
            }
            if (word == Word.CHORD && draft.chordCount == CHORDS || word == Word.MACRO && draft.macroCount == MACROS) {
                return fail(ROOM);
            }
            if (!takeToken(Tokens.IS_WORD)) {
                return false;
            }
            boolean good = true;
            if (word == Word.DIODES) {
                draft.diodes = true;
            } else if (word == Word.SIX) {
                draft.six = true;
            } else if (word == Word.KEY) {
                good = takeKey();
            } else if (word == Word.CHORD) {
                good = takeChord();
            } else if (word == Word.MACRO) {
                good = takeMacro();
            } else {
                good = takeSetting(word);
            }
            return good && takeToken(Tokens.IS_SIGN);
        }

        private boolean takeSetting(Word word) {
            if (!takeNumber(word.least, word.most)) {
                return false;
            }
            if (word == Word.BOUNCE) {
                draft.bounce = number;
            } else if (word == Word.TERM) {
                draft.term = number;
            } else if (word == Word.CHORDING) {
                draft.chording = number;
            } else if (word == Word.TWICE) {
                draft.twice = number;
            } else if (word == Word.REPEAT) {
                draft.delay = number;
                if (!takeNumber(1, 20)) {
                    return false;
                }
                draft.rate = number;
            }
            return true;
        }

        private boolean takeKey() {
            if (!takeNumber(Word.KEY.least, Word.KEY.most)) {
                return false;
            }
            int layer = number;
            if (!takeNumber(0, draft.keys() - 1)) {
                return false;
            }
            Deed deed = draft.toldDeed(layer, number);
            if (!takeDeed()) {
                return false;
            }
            if (deed != null) {
                deed.copyFrom(told);
            }
            return true;
        }

        private boolean takeChord() {
            if (!takeChordKey(NONE)) {
                return false;
            }
            int first = number;
            if (!takeChordKey(first)) {
                return false;
            }
            int other = number;
            Word word = tokens.wordAt(at);
            if (word != Word.CODE && word != Word.MOD && word != Word.PLAY) {
                noteLater(WRONG, at);
            }
            if (!takeDeed()) {
                return false;
            }
            draft.addChord(first, other, told);
            return true;
        }

        private boolean takeChordKey(int unlike) {
            int key = tokens.numberAt(at);
            if (key == unlike || draft.chordOf(key) != NONE) {
                noteLater(TOLD_TWICE, at);
            }
            return takeNumber(0, draft.keys() - 1);
        }

        private boolean takeMacro() {
            if (!takeNumber(Word.MACRO.least, Word.MACRO.most)) {
                return false;
            }
            draft.addMacro(number);
            for (int codes = 1; codes <= MACRO_CODES && tokens.kindAt(at) == Tokens.IS_INT; codes++) {
                if (codes == MACRO_CODES) {
                    return fail(ROOM);
                }
                if (!takeNumber(Word.MACRO.least, Word.MACRO.most)) {
                    return false;
                }
                draft.addMacroCode(number);
            }
            return true;
        }

        private boolean takeDeed() {
            Word word = tokens.wordAt(at);
            if (word == null || word.deed == NONE) {
                return fail(SYNTAX);
            }
            if (!takeToken(Tokens.IS_WORD)) {
                return false;
            }
            told.tell(word.deed, NONE, NONE);
            if (word == Word.NOTHING || word == Word.BELOW) {
                return true;
            }
            if (!takeNumber(word.least, word.most)) {
                return false;
            }
            told.first = number;
            Word last = word;
            if (word == Word.HOLD) {
                last = tokens.wordAt(at);
                if (last != Word.LAYER && last != Word.MOD) {
                    return fail(SYNTAX);
                }
                if (!takeToken(Tokens.IS_WORD)) {
                    return false;
                }
                told.kind = last == Word.LAYER ? HOLD_LAYER : HOLD_MOD;
            } else if (word != Word.DOUBLE) {
                return true;
            }
            if (!takeNumber(last.least, last.most)) {
                return false;
            }
            told.second = number;
            return true;
        }

        private boolean takeNumber(int least, int most) {
            number = tokens.numberAt(at);
            if (!takeToken(Tokens.IS_INT)) {
                return false;
            }
            if (number < least || number > most) {
                noteLater(WRONG, at - 1);
            }
            return true;
        }

        private boolean takeToken(int kind) {
            if (tokens.kindAt(at) != kind) {
                return fail(SYNTAX);
            }
            if (at >= Tokens.MOST) {
                return fail(ROOM);
            }
            at++;
            return true;
        }

        private boolean fail(int number) {
            fault = number;
            faultToken = at;
            return false;
        }

        // These faults count only if the whole text has none of the others, and then the first of them.
        private void noteLater(int number, int token) {
            if (laterFault == 0) {
                laterFault = number;
                laterToken = token;
            }
        }
    }

    /** What a key, or a chord, is told to do. */
    private static final class Deed {
        private int kind = NOTHING;
        private int first = NONE;
        private int second = NONE;

        void tell(int kind, int first, int second) {
            this.kind = kind;
            this.first = first;
            this.second = second;
        }

        void copyFrom(Deed other) {
            tell(other.kind, other.first, other.second);
        }
    }

    /** All that a text tells. */
    private static final class Board {
        private int rows;
        private int columns;
        private boolean diodes;
        private boolean six;
        private int bounce;
        private int term;
        private int chording;
        private int twice;
        private int delay;
        private int rate;
        private final Deed[] deeds = new Deed[LAYERS * KEYS];
        private final Deed nothing = new Deed();
        private int chordCount;
        private final int[] chordFirst = new int[CHORDS];
        private final int[] chordOther = new int[CHORDS];
        private final Deed[] chordDeeds = new Deed[CHORDS];
        private int macroCount;
        private final int[] macroLengths = new int[MACROS];
        private final int[] macroCodes = new int[MACROS * MACRO_CODES];

        Board() {
            for (int i = 0; i < deeds.length; i++) {
                deeds[i] = new Deed();
            }
            for (int i = 0; i < CHORDS; i++) {
                chordDeeds[i] = new Deed();
            }
            clear();
        }

        void clear() {
            rows = 0;
            columns = 0;
            diodes = false;
            six = false;
            bounce = 2;
            term = 8;
            chording = 3;
            twice = 6;
            delay = 20;
            rate = 5;
            for (int i = 0; i < deeds.length; i++) {
                deeds[i].tell(i < KEYS ? NOTHING : BELOW, NONE, NONE);
            }
            chordCount = 0;
            macroCount = 0;
        }

        void copyFrom(Board other) {
            rows = other.rows;
            columns = other.columns;
            diodes = other.diodes;
            six = other.six;
            bounce = other.bounce;
            term = other.term;
            chording = other.chording;
            twice = other.twice;
            delay = other.delay;
            rate = other.rate;
            for (int i = 0; i < deeds.length; i++) {
                deeds[i].copyFrom(other.deeds[i]);
            }
            chordCount = other.chordCount;
            for (int i = 0; i < CHORDS; i++) {
                chordFirst[i] = other.chordFirst[i];
                chordOther[i] = other.chordOther[i];
                chordDeeds[i].copyFrom(other.chordDeeds[i]);
            }
            macroCount = other.macroCount;
            System.arraycopy(other.macroLengths, 0, macroLengths, 0, MACROS);
            System.arraycopy(other.macroCodes, 0, macroCodes, 0, MACROS * MACRO_CODES);
        }

        int keys() {
            return rows * columns;
        }

        boolean hasKey(int key) {
            return key >= 0 && key < keys();
        }

        Deed toldDeed(int layer, int key) {
            if (layer < 0 || layer >= LAYERS || key < 0 || key >= KEYS) {
                return null;
            }
            return deeds[layer * KEYS + key];
        }

        Deed deedIn(int layers, int key) {
            for (int layer = LAYERS - 1; layer >= 0; layer--) {
                Deed deed = toldDeed(layer, key);
                if (isIn(layers, layer) && deed != null && deed.kind != BELOW) {
                    return deed;
                }
            }
            return nothing;
        }

        void addChord(int first, int other, Deed deed) {
            if (chordCount < CHORDS) {
                chordFirst[chordCount] = first;
                chordOther[chordCount] = other;
                chordDeeds[chordCount].copyFrom(deed);
                chordCount++;
            }
        }

        int chordOf(int key) {
            for (int i = 0; i < chordCount; i++) {
                if (chordFirst[i] == key || chordOther[i] == key) {
                    return i;
                }
            }
            return NONE;
        }

        Deed chordDeed(int chord) {
            return chord < 0 || chord >= chordCount ? nothing : chordDeeds[chord];
        }

        void addMacro(int code) {
            if (macroCount < MACROS) {
                macroLengths[macroCount] = 0;
                macroCount++;
                addMacroCode(code);
            }
        }

        void addMacroCode(int code) {
            int macro = macroCount - 1;
            if (macro >= 0 && macroLengths[macro] < MACRO_CODES) {
                macroCodes[macro * MACRO_CODES + macroLengths[macro]] = code;
                macroLengths[macro]++;
            }
        }

        int macroCode(int macro, int i) {
            if (macro < 0 || macro >= macroCount || i < 0 || i >= macroLengths[macro]) {
                return NONE;
            }
            return macroCodes[macro * MACRO_CODES + i];
        }
    }

    /** How rows and columns hang together by closed switches, and which keys show for that. */
    private static final class Wiring {
        private final int[] partOf = new int[ROWS + COLUMNS];
        private int parts;
        private int seen;
        private int barred;

        void follow(Board board, int closed) {
            join(board, closed);
            if (board.diodes) {
                seen = closed;
                barred = 0;
                return;
            }
            seen = 0;
            for (int key = 0; board.hasKey(key) && key < KEYS; key++) {
                if (partOf[key / board.columns] == partOf[ROWS + key % board.columns]) {
                    seen |= 1 << key;
                }
            }
            barred = 0;
            for (int row = 0; row < board.rows; row++) {
                bar(board, row);
            }
        }

        private void join(Board board, int closed) {
            for (int line = 0; line < partOf.length; line++) {
                partOf[line] = line;
            }
            parts = board.rows + board.columns;
            for (int key = 0; board.hasKey(key) && key < KEYS; key++) {
                int from = partOf[ROWS + key % board.columns];
                int to = partOf[key / board.columns];
                if (isIn(closed, key) && from != to) {
                    parts--;
                    for (int line = 0; line < partOf.length; line++) {
                        if (partOf[line] == from) {
                            partOf[line] = to;
                        }
                    }
                }
            }
        }

        // Two columns that are seen in two rows are two corners in each of them.
        private void bar(Board board, int row) {
            int columnBits = (1 << board.columns) - 1;
            int mine = seen >>> row * board.columns & columnBits;
            for (int other = 0; other < board.rows; other++) {
                int both = mine & seen >>> other * board.columns;
                if (other != row && Integer.bitCount(both) > 1) {
                    barred |= both << row * board.columns;
                }
            }
        }
    }

    /** Switches, and what of each key is believed. */
    private static final class Scan {
        private int closed;
        private int seen;
        private int barred;
        private int down;
        private final int[] unlike = new int[KEYS];
        private final float[] steady = new float[KEYS];
        private final int[] strokes = new int[KEYS];
        private final int[] longest = new int[KEYS];
        private final int[] lastEvent = new int[KEYS];

        void clear() {
            closed = 0;
            seen = 0;
            barred = 0;
            down = 0;
            for (int key = 0; key < KEYS; key++) {
                unlike[key] = 0;
                steady[key] = 0.0f;
                strokes[key] = 0;
                longest[key] = 0;
                lastEvent[key] = NONE;
            }
        }

        void copyFrom(Scan other) {
            closed = other.closed;
            seen = other.seen;
            barred = other.barred;
            down = other.down;
            System.arraycopy(other.unlike, 0, unlike, 0, KEYS);
            System.arraycopy(other.steady, 0, steady, 0, KEYS);
            System.arraycopy(other.strokes, 0, strokes, 0, KEYS);
            System.arraycopy(other.longest, 0, longest, 0, KEYS);
            System.arraycopy(other.lastEvent, 0, lastEvent, 0, KEYS);
        }

        void weighSteady(int key) {
            float next = steady[key] * 0.875f;
            steady[key] = isIn(seen, key) ? next + 0.125f : next;
        }

        /** Looks at a key once more: whether it is believed now to have changed. */
        boolean changes(int key, int bounce) {
            boolean differs = !isIn(barred, key) && isIn(seen, key) != isIn(down, key);
            unlike[key] = differs ? unlike[key] + 1 : 0;
            if (unlike[key] < bounce) {
                return false;
            }
            unlike[key] = 0;
            return true;
        }

        void change(int key, int now) {
            down ^= 1 << key;
            if (isIn(down, key)) {
                strokes[key]++;
            } else {
                longest[key] = Math.max(longest[key], now - lastEvent[key]);
            }
            lastEvent[key] = now;
        }
    }

    /** The events that are not worked off, the first of them at 0. */
    private static final class Queue {
        // No first event waits longer than 99 ticks, and no key has two events in one tick.
        private static final int MOST = 100 * KEYS;
        private static final int PER_TICK = 64;

        // Each event as (tick * 64 + key * 2 + down), so that one array is held and shifted.
        private final int[] events = new int[MOST];
        private int size;
        private int total;

        void clear() {
            size = 0;
            total = 0;
        }

        void copyFrom(Queue other) {
            size = other.size;
            total = other.total;
            System.arraycopy(other.events, 0, events, 0, other.size);
        }

        void add(int key, boolean down, int tick) {
            if (size < MOST) {
                events[size] = tick * PER_TICK + key * 2 + (down ? 1 : 0);
                size++;
                total++;
            }
        }

        void drop(int i) {
            if (i >= 0 && i < size) {
                System.arraycopy(events, i + 1, events, i, size - i - 1);
                size--;
            }
        }

        void dropNext(int key, boolean down) {
            for (int i = 0; i < size; i++) {
                if (keyAt(i) == key && isDownAt(i) == down) {
                    drop(i);
                    return;
                }
            }
        }

        int keyAt(int i) {
            return i < 0 || i >= size ? NONE : events[i] % PER_TICK / 2;
        }

        boolean isDownAt(int i) {
            return i >= 0 && i < size && events[i] % 2 == 1;
        }

        int tickAt(int i) {
            return i < 0 || i >= size ? NONE : events[i] / PER_TICK;
        }
    }

    /** What keys do now, and which layers are toggled; gathered into what would be sent. */
    private static final class Doing {
        private static final int MOST_CODES = KEYS + 1;

        private final int[] kind = new int[KEYS];
        private final int[] which = new int[KEYS];
        private final int[] partner = new int[KEYS];
        // The keys that do something, as they began.
        private final int[] order = new int[KEYS];
        private int busy;
        private int toggled;
        private int mods;
        private final int[] codes = new int[MOST_CODES];
        private int codeCount;

        void clear() {
            for (int key = 0; key < KEYS; key++) {
                kind[key] = NONE;
                which[key] = NONE;
                partner[key] = NONE;
            }
            busy = 0;
            toggled = 0;
        }

        void copyFrom(Doing other) {
            System.arraycopy(other.kind, 0, kind, 0, KEYS);
            System.arraycopy(other.which, 0, which, 0, KEYS);
            System.arraycopy(other.partner, 0, partner, 0, KEYS);
            System.arraycopy(other.order, 0, order, 0, KEYS);
            busy = other.busy;
            toggled = other.toggled;
        }

        void begin(int key, int kind, int which, int partner) {
            if (this.kind[key] == NONE && busy < KEYS) {
                this.kind[key] = kind;
                this.which[key] = which;
                this.partner[key] = partner;
                order[busy] = key;
                busy++;
            }
        }

        void end(int key) {
            int other = partner[key];
            drop(key);
            if (other != NONE) {
                drop(other);
            }
        }

        private void drop(int key) {
            kind[key] = NONE;
            which[key] = NONE;
            partner[key] = NONE;
            int kept = 0;
            for (int i = 0; i < busy; i++) {
                if (order[i] != key) {
                    order[kept] = order[i];
                    kept++;
                }
            }
            busy = kept;
        }

        void gather(int macroCode) {
            mods = 0;
            codeCount = 0;
            for (int i = 0; i < busy; i++) {
                int key = order[i];
                if (kind[key] == MOD) {
                    mods |= 1 << which[key];
                } else if (kind[key] == CODE) {
                    addCode(which[key]);
                }
            }
            if (macroCode != NONE) {
                addCode(macroCode);
            }
        }

        private void addCode(int code) {
            for (int i = 0; i < codeCount; i++) {
                if (codes[i] == code) {
                    return;
                }
            }
            if (codeCount < MOST_CODES) {
                codes[codeCount] = code;
                codeCount++;
            }
        }

        boolean sends(int code) {
            for (int i = 0; i < codeCount; i++) {
                if (codes[i] == code) {
                    return true;
                }
            }
            return false;
        }
    }

    /** The reports that are kept, and what the host makes of them. */
    private static final class Reports {
        private static final int KEPT = 40;

        private final int[] ticks = new int[KEPT];
        private final int[] mods = new int[KEPT];
        private final int[] counts = new int[KEPT];
        private final int[] codes = new int[KEPT * Doing.MOST_CODES];
        private int total;
        private int latest;
        private int since;
        private int repeats;
        private int repeatsOfLatest;

        void clear() {
            total = 0;
            repeats = 0;
            makeLatest(NONE, NONE);
        }

        void copyFrom(Reports other) {
            System.arraycopy(other.ticks, 0, ticks, 0, KEPT);
            System.arraycopy(other.mods, 0, mods, 0, KEPT);
            System.arraycopy(other.counts, 0, counts, 0, KEPT);
            System.arraycopy(other.codes, 0, codes, 0, KEPT * Doing.MOST_CODES);
            total = other.total;
            latest = other.latest;
            since = other.since;
            repeats = other.repeats;
            repeatsOfLatest = other.repeatsOfLatest;
        }

        /** Where the report i is kept, the latest being 0. */
        int rowOf(int i) {
            return i < 0 || i >= KEPT || i >= total ? NONE : (total - 1 - i) % KEPT;
        }

        int codeAt(int row, int i) {
            if (row < 0 || row >= KEPT || i < 0 || i >= counts[row]) {
                return NONE;
            }
            return codes[row * Doing.MOST_CODES + i];
        }

        void reportIfUnlike(Doing doing, boolean six, int now) {
            boolean over = six && doing.codeCount > CODES_OF_SIX;
            int ahead = rowOf(0);
            if (isAlike(ahead, doing, over)) {
                return;
            }
            renewLatest(ahead, doing, over, now);
            int row = total % KEPT;
            ticks[row] = now;
            mods[row] = doing.mods;
            counts[row] = over ? OVER : doing.codeCount;
            System.arraycopy(doing.codes, 0, codes, row * Doing.MOST_CODES, doing.codeCount);
            total++;
        }

        private boolean isAlike(int row, Doing doing, boolean over) {
            if (row == NONE) {
                return doing.mods == 0 && doing.codeCount == 0;
            }
            if (mods[row] != doing.mods || counts[row] != (over ? OVER : doing.codeCount)) {
                return false;
            }
            for (int i = 0; i < counts[row]; i++) {
                if (codeAt(row, i) != doing.codes[i]) {
                    return false;
                }
            }
            return true;
        }

        private void renewLatest(int ahead, Doing doing, boolean over, int now) {
            int fresh = NONE;
            for (int i = 0; i < doing.codeCount && !over; i++) {
                if (!hasCode(ahead, doing.codes[i])) {
                    fresh = doing.codes[i];
                }
            }
            if (fresh != NONE) {
                makeLatest(fresh, now);
            } else if (over || !doing.sends(latest)) {
                makeLatest(NONE, NONE);
            }
        }

        private void makeLatest(int code, int now) {
            latest = code;
            since = now;
            repeatsOfLatest = code == NONE ? NONE : 0;
        }

        private boolean hasCode(int row, int code) {
            for (int i = 0; row != NONE && i < counts[row]; i++) {
                if (codes[row * Doing.MOST_CODES + i] == code) {
                    return true;
                }
            }
            return false;
        }

        void repeatLatest(int now, int delay, int rate) {
            int late = now - since - delay;
            if (latest != NONE && late >= 0 && rate > 0 && late % rate == 0) {
                repeats++;
                repeatsOfLatest++;
            }
        }
    }

    /** All that ticks change, on a board that they do not. */
    private static final class Course {
        // What becomes of the first event of the queue.
        private static final int WAITS = 0;
        private static final int IS_UP = 1;
        private static final int TOGETHER = 2;
        private static final int PLAIN = 3;
        private static final int HELD = 4;
        private static final int TAPPED = 5;
        private static final int ONCE = 6;
        private static final int TWICE = 7;

        private final Board board;
        private final Scan scan = new Scan();
        private final Queue queue = new Queue();
        private final Doing doing = new Doing();
        private final Reports reports = new Reports();
        private int now;

        Course(Board board) {
            this.board = board;
            clear();
        }

        void clear() {
            now = 0;
            scan.clear();
            queue.clear();
            doing.clear();
            reports.clear();
        }

        void copyFrom(Course other) {
            now = other.now;
            scan.copyFrom(other.scan);
            queue.copyFrom(other.queue);
            doing.copyFrom(other.doing);
            reports.copyFrom(other.reports);
        }

        // The document's words are "some KEY that is down holds": a key whose UP still waits in the queue is up.
        int activeLayers() {
            int layers = 1 | doing.toggled;
            for (int key = 0; key < KEYS; key++) {
                if (doing.kind[key] == LAYER && isIn(scan.down, key)) {
                    layers |= 1 << doing.which[key];
                }
            }
            return layers;
        }

        void passTick() {
            now++;
            for (int key = 0; board.hasKey(key) && key < KEYS; key++) {
                scan.weighSteady(key);
                if (scan.changes(key, board.bounce)) {
                    scan.change(key, now);
                    queue.add(key, isIn(scan.down, key), now);
                }
            }
            // Each turn takes an event at least off the queue.
            for (int turns = queue.size; turns > 0; turns--) {
                int fate = fateOfFirst();
                if (fate == WAITS) {
                    break;
                }
                workOff(fate);
            }
            reports.repeatLatest(now, board.delay, board.rate);
        }

        private int fateOfFirst() {
            if (queue.size == 0) {
                return WAITS;
            }
            if (!queue.isDownAt(0)) {
                return IS_UP;
            }
            int key = queue.keyAt(0);
            int chord = board.chordOf(key);
            if (chord != NONE) {
                int end = queue.tickAt(0) + board.chording;
                if (queue.size == 1 && now < end) {
                    return WAITS;
                }
                int other = board.chordFirst[chord] == key ? board.chordOther[chord] : board.chordFirst[chord];
                if (queue.isDownAt(1) && queue.keyAt(1) == other && queue.tickAt(1) < end) {
                    return TOGETHER;
                }
            }
            int kind = board.deedIn(activeLayers(), key).kind;
            if (kind == HOLD_LAYER || kind == HOLD_MOD) {
                return fateOfHold(key, queue.tickAt(0) + board.term);
            }
            return kind == DOUBLE ? fateOfDouble(key, queue.tickAt(0) + board.twice) : PLAIN;
        }

        private int fateOfHold(int key, int end) {
            int wentDown = 0;
            for (int i = 1; i < queue.size; i++) {
                int next = queue.keyAt(i);
                if (queue.tickAt(i) >= end) {
                    return HELD;
                }
                if (queue.isDownAt(i)) {
                    wentDown |= 1 << next;
                } else if (next == key) {
                    return TAPPED;
                } else if (isIn(wentDown, next)) {
                    return HELD;
                }
            }
            return now >= end ? HELD : WAITS;
        }

        private int fateOfDouble(int key, int end) {
            for (int i = 1; i < queue.size; i++) {
                if (queue.tickAt(i) >= end) {
                    return ONCE;
                }
                if (queue.isDownAt(i)) {
                    return queue.keyAt(i) == key ? TWICE : ONCE;
                }
            }
            return now >= end ? ONCE : WAITS;
        }

        private void workOff(int fate) {
            int key = queue.keyAt(0);
            if (fate == IS_UP) {
                queue.drop(0);
                doing.end(key);
                send(NONE);
                return;
            }
            if (fate == TOGETHER) {
                int other = queue.keyAt(1);
                queue.drop(1);
                queue.drop(0);
                Deed shared = board.chordDeed(board.chordOf(key));
                perform(key, other, shared.kind, shared.first);
                return;
            }
            Deed deed = board.deedIn(activeLayers(), key);
            queue.drop(0);
            if (fate == HELD) {
                perform(key, NONE, deed.kind == HOLD_LAYER ? LAYER : MOD, deed.second);
            } else if (fate == TWICE) {
                queue.dropNext(key, false);
                queue.dropNext(key, true);
                perform(key, NONE, CODE, deed.second);
            } else if (fate == PLAIN) {
                perform(key, NONE, deed.kind, deed.first);
            } else {
                perform(key, NONE, CODE, deed.first);
            }
        }

        private void perform(int key, int partner, int kind, int number) {
            if (kind == CODE || kind == MOD || kind == LAYER) {
                doing.begin(key, kind, number, partner);
                if (partner != NONE) {
                    doing.begin(partner, kind, number, key);
                }
            } else if (kind == TOGGLE) {
                doing.toggled ^= 1 << number;
            } else if (kind == PLAY) {
                for (int i = 0; i < MACRO_CODES && board.macroCode(number, i) != NONE; i++) {
                    send(board.macroCode(number, i));
                    send(NONE);
                }
            }
            send(NONE);
        }

        private void send(int macroCode) {
            doing.gather(macroCode);
            reports.reportIfUnlike(doing, board.six, now);
        }
    }
}
