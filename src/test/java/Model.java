import java.util.ArrayList;
import java.util.Arrays;
import java.util.Comparator;
import java.util.HashSet;
import java.util.List;
import java.util.Set;

/** The document once more, in the most literal form and with the library's help: what FuzzTest compares with. */
final class Model {
    /** A text's fault. */
    static final class Fault extends RuntimeException {
        private static final long serialVersionUID = 1L;
        final int number;
        final int place;

        Fault(int number, int place) {
            this.number = number;
            this.place = place;
        }
    }

    record Token(String text, int place) { }

    record Deed(String word, int first, int second, String held) {
        static Deed of(String word) {
            return new Deed(word, -1, -1, "");
        }

        int number() {
            if (word.equals("hold")) {
                return held.equals("layer") ? 6 : 7;
            }
            return List.of("code", "mod", "layer", "toggle", "nothing", "below", "", "", "double", "play").indexOf(word);
        }
    }

    record Chord(int first, int other, Deed deed) {
        int beside(int key) {
            return key == first ? other : first;
        }
    }

    record Event(int key, boolean down, int tick) { }

    record Report(int tick, int mods, boolean over, List<Integer> codes) {
        boolean isLike(Report other) {
            return mods == other.mods && over == other.over && codes.equals(other.codes);
        }
    }

    /** What a key does: kind 0 a code, 1 a mod, 2 a layer. */
    record Act(int kind, int which, int began, int beside) { }

    /** What a text tells. */
    static final class Told {
        int rows;
        int columns;
        boolean diodes;
        boolean six;
        int bounce = 2;
        int term = 8;
        int chording = 3;
        int twice = 6;
        int delay = 20;
        int rate = 5;
        final Deed[][] deeds = new Deed[4][24];
        final List<Chord> chords = new ArrayList<>();
        final List<List<Integer>> macros = new ArrayList<>();

        Told() {
            for (int layer = 0; layer < 4; layer++) {
                Arrays.fill(deeds[layer], Deed.of(layer == 0 ? "nothing" : "below"));
            }
        }
    }

    static final class State {
        int now;
        boolean[] closed = new boolean[24];
        boolean[] down = new boolean[24];
        int[] unlike = new int[24];
        float[] steady = new float[24];
        int[] strokes = new int[24];
        int[] longest = new int[24];
        int[] lastEvent = new int[24];
        List<Event> queue = new ArrayList<>();
        int events;
        Act[] acts = new Act[24];
        int began;
        Set<Integer> toggled = new HashSet<>();
        List<Report> reports = new ArrayList<>();
        int latest = -1;
        int since = -1;
        int repeats;
        int repeatsOfLatest = -1;

        State() {
            Arrays.fill(lastEvent, -1);
        }

        State copy() {
            State s = new State();
            s.now = now;
            s.closed = closed.clone();
            s.down = down.clone();
            s.unlike = unlike.clone();
            s.steady = steady.clone();
            s.strokes = strokes.clone();
            s.longest = longest.clone();
            s.lastEvent = lastEvent.clone();
            s.queue = new ArrayList<>(queue);
            s.events = events;
            s.acts = acts.clone();
            s.began = began;
            s.toggled = new HashSet<>(toggled);
            s.reports = new ArrayList<>(reports);
            s.latest = latest;
            s.since = since;
            s.repeats = repeats;
            s.repeatsOfLatest = repeatsOfLatest;
            return s;
        }
    }

    private final List<Integer> tape = new ArrayList<>();
    private int place = -1;
    private Told told = new Told();
    private State s = new State();
    private final State[] slots = new State[3];

    // ---- texts

    int feed(int a, int b, int c, int d, int e) {
        if (tape.size() > 1980) {
            return -1;
        }
        for (int four : new int[] {a, b, c, d, e}) {
            for (int i = 3; i >= 0; i--) {
                tape.add(four >> 8 * i & 255);
            }
        }
        return tape.size();
    }

    int back(int n) {
        if (n < 0 || n > tape.size()) {
            return -1;
        }
        tape.subList(tape.size() - n, tape.size()).clear();
        return tape.size();
    }

    int read() {
        StringBuilder text = new StringBuilder();
        for (int one : tape) {
            text.append((char) one);
        }
        tape.clear();
        place = -1;
        try {
            Told next = new Reading(text.toString()).whole();
            told = next;
            s = new State();
            Arrays.fill(slots, null);
            return 0;
        } catch (Fault fault) {
            place = fault.place;
            return fault.number;
        }
    }

    int place() {
        return place;
    }

    private static final class Reading {
        final List<Token> tokens = new ArrayList<>();
        final List<Fault> later = new ArrayList<>();
        final int length;
        final Told told = new Told();
        int at;

        Reading(String text) {
            length = text.length();
            java.util.regex.Matcher matcher = java.util.regex.Pattern
                    .compile("[\\t\\n\\r ]+|([a-z]+|[0-9]+|.)", java.util.regex.Pattern.DOTALL).matcher(text);
            while (matcher.find()) {
                if (matcher.group(1) != null) {
                    tokens.add(new Token(matcher.group(1), matcher.start()));
                }
            }
        }

        Told whole() {
            next("board");
            told.rows = number(1, 4);
            told.columns = number(1, 6);
            next(";");
            while (at < tokens.size()) {
                line();
            }
            if (!later.isEmpty()) {
                later.sort(Comparator.<Fault>comparingInt(f -> f.place).thenComparingInt(f -> f.number));
                throw later.get(0);
            }
            return told;
        }

        String peek() {
            return at < tokens.size() ? tokens.get(at).text : "";
        }

        int spot() {
            return at < tokens.size() ? tokens.get(at).place : length;
        }

        String next(String... fitting) {
            String token = peek();
            if (!Arrays.asList(fitting).contains(token)) {
                throw new Fault(1, spot());
            }
            if (at == 400) {
                throw new Fault(2, spot());
            }
            at++;
            return token;
        }

        boolean isInt() {
            return peek().matches("[0-9]{1,4}");
        }

        int number(int least, int most) {
            if (!isInt()) {
                throw new Fault(1, spot());
            }
            int spot = spot();
            int number = Integer.parseInt(next(peek()));
            if (number < least || number > most) {
                later.add(new Fault(5, spot));
            }
            return number;
        }

        void line() {
            int start = spot();
            String word = peek();
            if (word.equals("chord") && told.chords.size() == 4 || word.equals("macro") && told.macros.size() == 4) {
                throw new Fault(2, start);
            }
            next("diodes", "six", "bounce", "term", "chording", "twice", "repeat", "key", "chord", "macro");
            switch (word) {
                case "diodes" -> told.diodes = true;
                case "six" -> told.six = true;
                case "bounce" -> told.bounce = number(1, 9);
                case "term" -> told.term = number(1, 99);
                case "chording" -> told.chording = number(1, 20);
                case "twice" -> told.twice = number(1, 40);
                case "repeat" -> {
                    told.delay = number(1, 99);
                    told.rate = number(1, 20);
                }
                case "key" -> {
                    int layer = number(0, 3);
                    int key = key();
                    Deed deed = deed(false);
                    if (layer < 4 && key < 24) {
                        told.deeds[layer][key] = deed;
                    }
                }
                case "chord" -> {
                    int first = chordKey(-1);
                    int other = chordKey(first);
                    told.chords.add(new Chord(first, other, deed(true)));
                }
                default -> macro();
            }
            next(";");
        }

        int key() {
            boolean sized = told.rows >= 1 && told.rows <= 4 && told.columns >= 1 && told.columns <= 6;
            return number(0, sized ? told.rows * told.columns - 1 : 9999);
        }

        int chordKey(int first) {
            int spot = spot();
            int key = key();
            boolean twice = key == first;
            for (Chord chord : told.chords) {
                twice |= chord.first == key || chord.other == key;
            }
            if (twice) {
                later.add(new Fault(3, spot));
            }
            return key;
        }

        void macro() {
            List<Integer> codes = new ArrayList<>();
            told.macros.add(codes);
            codes.add(number(1, 200));
            while (isInt()) {
                if (codes.size() == 8) {
                    throw new Fault(2, spot());
                }
                codes.add(number(1, 200));
            }
        }

        Deed deed(boolean ofChord) {
            int spot = spot();
            String word = next("code", "mod", "layer", "toggle", "nothing", "below", "hold", "double", "play");
            if (ofChord && !List.of("code", "mod", "play").contains(word)) {
                later.add(new Fault(5, spot));
            }
            switch (word) {
                case "code":
                    return new Deed(word, number(1, 200), -1, "");
                case "mod":
                    return new Deed(word, number(0, 7), -1, "");
                case "layer":
                case "toggle":
                    return new Deed(word, number(1, 3), -1, "");
                case "play":
                    return new Deed(word, number(0, 3), -1, "");
                case "double":
                    int once = number(1, 200);
                    return new Deed(word, once, number(1, 200), "");
                case "hold":
                    int tap = number(1, 200);
                    String held = next("layer", "mod");
                    return new Deed(word, tap, held.equals("layer") ? number(1, 3) : number(0, 7), held);
                default:
                    return Deed.of(word);
            }
        }
    }

    // ---- switches

    private int keys() {
        return told.rows * told.columns;
    }

    private boolean isKey(int key) {
        return key >= 0 && key < keys();
    }

    private static int bits(boolean[] set) {
        int bits = 0;
        for (int i = 0; i < set.length; i++) {
            bits |= set[i] ? 1 << i : 0;
        }
        return bits;
    }

    /** The columns (from 10 on) and rows that can be reached from a row by closed switches. */
    private Set<Integer> reach(int line, boolean[] closed) {
        Set<Integer> found = new HashSet<>(List.of(line));
        List<Integer> open = new ArrayList<>(List.of(line));
        while (!open.isEmpty()) {
            int from = open.remove(0);
            for (int key = 0; key < keys(); key++) {
                int row = key / told.columns;
                int column = 10 + key % told.columns;
                if (closed[key] && (from == row || from == column)) {
                    int to = from == row ? column : row;
                    if (found.add(to)) {
                        open.add(to);
                    }
                }
            }
        }
        return found;
    }

    private boolean[] seen(boolean[] closed) {
        if (told.diodes) {
            return closed.clone();
        }
        boolean[] seen = new boolean[24];
        for (int key = 0; key < keys(); key++) {
            seen[key] = reach(key / told.columns, closed).contains(10 + key % told.columns);
        }
        return seen;
    }

    private boolean[] barred(boolean[] closed) {
        boolean[] barred = new boolean[24];
        boolean[] seen = seen(closed);
        for (int key = 0; key < keys() && !told.diodes; key++) {
            int row = key / told.columns;
            int column = key % told.columns;
            for (int row2 = 0; row2 < told.rows; row2++) {
                for (int column2 = 0; column2 < told.columns; column2++) {
                    barred[key] |= row2 != row && column2 != column && seen[key] && seen[row * told.columns + column2]
                            && seen[row2 * told.columns + column] && seen[row2 * told.columns + column2];
                }
            }
        }
        return barred;
    }

    private int parts(boolean[] closed) {
        Set<Set<Integer>> parts = new HashSet<>();
        for (int row = 0; row < told.rows; row++) {
            parts.add(reach(row, closed));
        }
        for (int column = 0; column < told.columns; column++) {
            parts.add(reach(10 + column, closed));
        }
        return parts.size();
    }

    boolean press(int key, boolean closed) {
        if (!isKey(key) || s.closed[key] == closed) {
            return false;
        }
        s.closed[key] = closed;
        return true;
    }

    // ---- ticks

    private int layers() {
        int layers = 1;
        for (int key = 0; key < keys(); key++) {
            if (s.down[key] && s.acts[key] != null && s.acts[key].kind == 2) {
                layers |= 1 << s.acts[key].which;
            }
        }
        for (int layer : s.toggled) {
            layers |= 1 << layer;
        }
        return layers;
    }

    private Deed deedNow(int key) {
        int layers = layers();
        for (int layer = 3; layer >= 0; layer--) {
            if ((layers & 1 << layer) != 0 && !told.deeds[layer][key].word.equals("below")) {
                return told.deeds[layer][key];
            }
        }
        return Deed.of("nothing");
    }

    private void oneTick() {
        s.now++;
        boolean[] seen = seen(s.closed);
        boolean[] barred = barred(s.closed);
        for (int key = 0; key < keys(); key++) {
            s.steady[key] *= 0.875f;
            if (seen[key]) {
                s.steady[key] += 0.125f;
            }
            if (barred[key] || seen[key] == s.down[key]) {
                s.unlike[key] = 0;
                continue;
            }
            s.unlike[key]++;
            if (s.unlike[key] == told.bounce) {
                s.unlike[key] = 0;
                s.down[key] = seen[key];
                s.events++;
                s.queue.add(new Event(key, seen[key], s.now));
                if (seen[key]) {
                    s.strokes[key]++;
                } else {
                    s.longest[key] = Math.max(s.longest[key], s.now - s.lastEvent[key]);
                }
                s.lastEvent[key] = s.now;
            }
        }
        while (!s.queue.isEmpty() && workFirst()) {
            continue;
        }
        if (s.latest != -1) {
            int m = s.now - s.since;
            if (m >= told.delay && (m - told.delay) % told.rate == 0) {
                s.repeats++;
                s.repeatsOfLatest++;
            }
        }
    }

    /** Whether the first event had not to wait. */
    private boolean workFirst() {
        Event first = s.queue.get(0);
        List<Event> behind = new ArrayList<>(s.queue.subList(1, s.queue.size()));
        int key = first.key;
        int t = first.tick;
        if (!first.down) {
            s.queue.remove(0);
            Act act = s.acts[key];
            s.acts[key] = null;
            if (act != null && act.beside != -1) {
                s.acts[act.beside] = null;
            }
            tell(-1);
            return true;
        }
        for (Chord chord : told.chords) {
            if (chord.first != key && chord.other != key) {
                continue;
            }
            int beside = chord.beside(key);
            if (behind.isEmpty() && s.now < t + told.chording) {
                return false;
            }
            if (!behind.isEmpty() && behind.get(0).down && behind.get(0).key == beside
                    && behind.get(0).tick < t + told.chording) {
                s.queue.remove(0);
                s.queue.remove(0);
                s.began++;
                act(key, chord.deed, beside);
                if (!chord.deed.word.equals("play")) {
                    act(beside, chord.deed, key);
                }
                tell(-1);
                return true;
            }
        }
        Deed deed = deedNow(key);
        if (deed.word.equals("hold")) {
            String fate = holdFate(key, t, behind);
            if (fate.isEmpty()) {
                return false;
            }
            deed = fate.equals("HELD") ? new Deed(deed.held, deed.second, -1, "") : new Deed("code", deed.first, -1, "");
        } else if (deed.word.equals("double")) {
            String fate = doubleFate(key, t, behind);
            if (fate.isEmpty()) {
                return false;
            }
            if (fate.equals("TWICE")) {
                behind.remove(firstOf(behind, key, false));
                behind.remove(firstOf(behind, key, true));
            }
            deed = new Deed("code", fate.equals("TWICE") ? deed.second : deed.first, -1, "");
        }
        s.queue = behind;
        s.began++;
        act(key, deed, -1);
        tell(-1);
        return true;
    }

    private static Event firstOf(List<Event> events, int key, boolean down) {
        for (Event event : events) {
            if (event.key == key && event.down == down) {
                return event;
            }
        }
        throw new AssertionError("no such event");
    }

    private String holdFate(int key, int t, List<Event> behind) {
        for (int i = 0; i < behind.size(); i++) {
            Event event = behind.get(i);
            if (event.tick >= t + told.term) {
                return "HELD";
            }
            if (!event.down && event.key == key) {
                return "TAPPED";
            }
            for (int j = 0; j < i; j++) {
                if (!event.down && behind.get(j).down && behind.get(j).key == event.key) {
                    return "HELD";
                }
            }
        }
        return s.now >= t + told.term ? "HELD" : "";
    }

    private String doubleFate(int key, int t, List<Event> behind) {
        for (Event event : behind) {
            if (event.tick >= t + told.twice) {
                return "ONCE";
            }
            if (event.down) {
                return event.key == key ? "TWICE" : "ONCE";
            }
        }
        return s.now >= t + told.twice ? "ONCE" : "";
    }

    private void act(int key, Deed deed, int beside) {
        switch (deed.word) {
            case "code" -> s.acts[key] = new Act(0, deed.first, s.began, beside);
            case "mod" -> s.acts[key] = new Act(1, deed.first, s.began, beside);
            case "layer" -> s.acts[key] = new Act(2, deed.first, s.began, beside);
            case "toggle" -> {
                if (!s.toggled.remove(deed.first)) {
                    s.toggled.add(deed.first);
                }
            }
            case "play" -> {
                List<Integer> codes = deed.first < told.macros.size() ? told.macros.get(deed.first) : List.of();
                for (int code : codes) {
                    tell(code);
                    tell(-1);
                }
            }
            default -> { }
        }
    }

    private Report sentNow(int macroCode) {
        int mods = 0;
        List<Act> acts = new ArrayList<>();
        for (Act act : s.acts) {
            if (act != null) {
                acts.add(act);
            }
        }
        acts.sort(Comparator.comparingInt(Act::began));
        List<Integer> codes = new ArrayList<>();
        for (Act act : acts) {
            if (act.kind == 1) {
                mods |= 1 << act.which;
            } else if (act.kind == 0 && !codes.contains(act.which)) {
                codes.add(act.which);
            }
        }
        if (macroCode != -1 && !codes.contains(macroCode)) {
            codes.add(macroCode);
        }
        return new Report(s.now, mods, false, codes);
    }

    private void tell(int macroCode) {
        Report sent = sentNow(macroCode);
        if (told.six && sent.codes.size() > 6) {
            sent = new Report(s.now, sent.mods, true, List.of());
        }
        Report ahead = s.reports.isEmpty() ? new Report(0, 0, false, List.of()) : s.reports.get(s.reports.size() - 1);
        if (sent.isLike(ahead)) {
            return;
        }
        s.reports.add(sent);
        List<Integer> fresh = new ArrayList<>(sent.codes);
        fresh.removeAll(ahead.codes);
        if (!fresh.isEmpty()) {
            s.latest = fresh.get(fresh.size() - 1);
            s.since = s.now;
            s.repeatsOfLatest = 0;
        } else if (!sent.codes.contains(s.latest)) {
            s.latest = -1;
            s.since = -1;
            s.repeatsOfLatest = -1;
        }
    }

    // ---- questions

    private static int pick(int what, int others, int... answers) {
        return what < 0 || what >= answers.length ? others : answers[what];
    }

    int tick(int n) {
        if (n < 1 || n > 50 || keys() == 0) {
            return -1;
        }
        int before = s.reports.size();
        for (int i = 0; i < n; i++) {
            oneTick();
        }
        return s.reports.size() - before;
    }

    int key(int key, int what) {
        if (!isKey(key)) {
            return -1;
        }
        return pick(what, -1, s.closed[key] ? 1 : 0, seen(s.closed)[key] ? 1 : 0, barred(s.closed)[key] ? 1 : 0,
                s.down[key] ? 1 : 0, s.unlike[key], Float.floatToIntBits(s.steady[key]));
    }

    int deed(int layer, int key, int what) {
        if (!isKey(key) || layer < -1 || layer > 3) {
            return -1;
        }
        Deed deed = layer == -1 ? deedNow(key) : told.deeds[layer][key];
        return pick(what, -1, deed.number(), deed.first, deed.second);
    }

    int does(int key, int what) {
        if (!isKey(key)) {
            return -2;
        }
        Act act = s.acts[key];
        return pick(what, -2, act == null ? -1 : act.kind, act == null ? -1 : act.which);
    }

    int event(int i, int what) {
        if (i == -1) {
            return s.queue.size();
        }
        if (i < 0 || i >= s.queue.size()) {
            return -1;
        }
        Event event = s.queue.get(i);
        return pick(what, -1, event.key, event.down ? 1 : 0, event.tick);
    }

    int report(int i, int what) {
        if (i < 0 || i >= 40 || i >= s.reports.size() || what < 0) {
            return -1;
        }
        Report report = s.reports.get(s.reports.size() - 1 - i);
        if (what < 3) {
            return pick(what, -1, report.tick, report.mods, report.over ? -2 : report.codes.size());
        }
        return what - 3 < report.codes.size() ? report.codes.get(what - 3) : -1;
    }

    int sent(int what) {
        Report sent = sentNow(-1);
        if (what < 2) {
            return pick(what, -1, sent.mods, sent.codes.size());
        }
        return what - 2 < sent.codes.size() ? sent.codes.get(what - 2) : -1;
    }

    int host(int what) {
        return pick(what, -2, s.latest, s.since, s.repeats, s.repeatsOfLatest);
    }

    int strokes(int key, int what) {
        return isKey(key) ? pick(what, -2, s.strokes[key], s.longest[key], s.lastEvent[key]) : -2;
    }

    int chord(int i, int what) {
        if (i == -1) {
            return told.chords.size();
        }
        if (i < 0 || i >= told.chords.size()) {
            return -1;
        }
        Chord chord = told.chords.get(i);
        Act act = s.acts[chord.first];
        return pick(what, -1, chord.first, chord.other, act != null && act.beside == chord.other ? 1 : 0);
    }

    int macro(int i, int k) {
        if (i < 0 || i >= told.macros.size()) {
            return -1;
        }
        List<Integer> codes = told.macros.get(i);
        if (k == -1) {
            return codes.size();
        }
        return k < 0 || k >= codes.size() ? -1 : codes.get(k);
    }

    int ghosts(int set, int what) {
        if (set < 0 || set >= 1 << keys()) {
            return -1;
        }
        boolean[] closed = new boolean[24];
        for (int key = 0; key < 24; key++) {
            closed[key] = (set >> key & 1) == 1;
        }
        return pick(what, -1, Integer.bitCount(bits(seen(closed)) & ~set), Integer.bitCount(bits(barred(closed))),
                parts(closed));
    }

    int ahead(int n, int what) {
        if (n < 1 || n > 120 || keys() == 0) {
            return -1;
        }
        State kept = s;
        s = s.copy();
        int before = s.reports.size();
        for (int i = 0; i < n; i++) {
            oneTick();
        }
        Report sent = sentNow(-1);
        int answer = pick(what, -1, s.reports.size() - before, sent.mods, sent.codes.size(), layers(), s.queue.size());
        s = kept;
        return answer;
    }

    boolean hold(int slot) {
        if (slot < 0 || slot > 2) {
            return false;
        }
        slots[slot] = s.copy();
        return true;
    }

    boolean restore(int slot) {
        if (slot < 0 || slot > 2 || slots[slot] == null) {
            return false;
        }
        s = slots[slot].copy();
        return true;
    }

    int count(int what) {
        int held = 0;
        for (State slot : slots) {
            held += slot == null ? 0 : 1;
        }
        int toggled = 0;
        for (int layer : s.toggled) {
            toggled |= 1 << layer;
        }
        return pick(what, -1, told.rows, told.columns, s.now, s.reports.size(), layers(), toggled, bits(s.down),
                bits(s.closed), bits(seen(s.closed)), bits(barred(s.closed)), s.events, tape.size(), held,
                told.diodes ? 1 : 0, told.six ? 1 : 0, told.bounce, told.term, told.chording, told.twice,
                told.macros.size(), told.delay, told.rate);
    }
}
