/** What the tests share: a count of wrong answers, texts put on a tape, keys struck. */
final class Checks {
    private static int wrong;
    private static int made;
    private static String sentence = "";

    private Checks() {
    }

    /** The document's words that the next answers are asked for; told with each that is wrong. */
    static void sentence(String words) {
        sentence = "\"" + words + "\": ";
    }

    static void due(String what, long got, long want) {
        made++;
        if (got != want) {
            wrong++;
            System.out.println(sentence + what + " answered " + got + ", due is " + want);
        }
    }

    static void yes(String what, boolean got) {
        due(what, got ? 1 : 0, 1);
    }

    static void no(String what, boolean got) {
        due(what, got ? 1 : 0, 0);
    }

    /** Puts a text of bytes 0 to 255 behind the tape. */
    static void put(KeyMatrix x, String text) {
        int fed = 0;
        for (; fed < text.length(); fed += 20) {
            int[] fours = new int[5];
            for (int i = 0; i < 20; i++) {
                int one = fed + i < text.length() ? text.charAt(fed + i) : ' ';
                fours[i / 4] = fours[i / 4] << 8 | one;
            }
            x.feed(fours[0], fours[1], fours[2], fours[3], fours[4]);
        }
        x.back(fed - text.length());
    }

    static KeyMatrix board(String text) {
        KeyMatrix x = new KeyMatrix();
        retell(x, text);
        return x;
    }

    static void retell(KeyMatrix x, String text) {
        put(x, text);
        due("read() of " + text, x.read(), 0);
    }

    /** The fault that a text has on an object of its own, and its place. */
    static void fault(String text, int number, int place) {
        fault(new KeyMatrix(), text, number, place);
    }

    static void fault(KeyMatrix x, String text, int number, int place) {
        put(x, text);
        due("read() of " + text, x.read(), number);
        due("place() of " + text, x.place(), place);
    }

    /** A key is closed for some ticks, then open for one. */
    static void strike(KeyMatrix x, int key, int ticks) {
        x.press(key, true);
        x.tick(ticks);
        x.press(key, false);
        x.tick(1);
    }

    /** Keys are closed one by one, each a tick behind the other. */
    static void down(KeyMatrix x, int... keys) {
        for (int key : keys) {
            x.press(key, true);
            x.tick(1);
        }
    }

    /** Keys are opened one by one, each a tick behind the other. */
    static void up(KeyMatrix x, int... keys) {
        for (int key : keys) {
            x.press(key, false);
            x.tick(1);
        }
    }

    static void does(KeyMatrix x, int key, int kind, int which) {
        due("does(" + key + ", 0)", x.does(key, 0), kind);
        due("does(" + key + ", 1)", x.does(key, 1), which);
    }

    /** What would be sent, and nothing beside. */
    static void sent(KeyMatrix x, int mods, int... codes) {
        due("sent(0)", x.sent(0), mods);
        due("sent(1)", x.sent(1), codes.length);
        for (int i = 0; i < codes.length; i++) {
            due("sent(" + (2 + i) + ")", x.sent(2 + i), codes[i]);
        }
        due("sent of one more", x.sent(2 + codes.length), -1);
        due("sent(-1)", x.sent(-1), -1);
        due("sent of the least", x.sent(Integer.MIN_VALUE), -1);
    }

    /** A report, and nothing beside. */
    static void report(KeyMatrix x, int i, int tick, int mods, int... codes) {
        String name = "report(" + i + ", ";
        due(name + "0)", x.report(i, 0), tick);
        due(name + "1)", x.report(i, 1), mods);
        due(name + "2)", x.report(i, 2), codes.length);
        for (int k = 0; k < codes.length; k++) {
            due(name + (3 + k) + ")", x.report(i, 3 + k), codes[k]);
        }
        due(name + "one more)", x.report(i, 3 + codes.length), -1);
        due(name + "-1)", x.report(i, -1), -1);
    }

    static void host(KeyMatrix x, int latest, int since, int repeats, int ofLatest) {
        due("host(0)", x.host(0), latest);
        due("host(1)", x.host(1), since);
        due("host(2)", x.host(2), repeats);
        due("host(3)", x.host(3), ofLatest);
        due("host(4)", x.host(4), -2);
        due("host(-1)", x.host(-1), -2);
    }

    static void close() {
        System.out.println(made + " answers, " + wrong + " wrong");
        if (wrong != 0) {
            System.exit(1);
        }
    }
}
