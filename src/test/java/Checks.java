/** What the tests share: a count of wrong answers, and texts put on a tape. */
final class Checks {
    private static int wrong;
    private static int made;

    private Checks() {
    }

    static void due(String what, long got, long want) {
        made++;
        if (got != want) {
            wrong++;
            System.out.println(what + " answered " + got + ", due is " + want);
        }
    }

    static void yes(String what, boolean got) {
        due(what, got ? 1 : 0, 1);
    }

    static void no(String what, boolean got) {
        due(what, got ? 1 : 0, 0);
    }

    /** Puts a text of bytes 0 to 255 behind the tape. */
    static void put(KeyMatrix x, String text) {
        int fed = 0;
        for (; fed < text.length(); fed += 20) {
            int[] fours = new int[5];
            for (int i = 0; i < 20; i++) {
                int one = fed + i < text.length() ? text.charAt(fed + i) : ' ';
                fours[i / 4] = fours[i / 4] << 8 | one;
            }
            x.feed(fours[0], fours[1], fours[2], fours[3], fours[4]);
        }
        x.back(fed - text.length());
    }

    static KeyMatrix board(String text) {
        KeyMatrix x = new KeyMatrix();
        retell(x, text);
        return x;
    }

    static void retell(KeyMatrix x, String text) {
        put(x, text);
        due("read() of " + text, x.read(), 0);
    }

    /** The fault that a text has on an object of its own, and its place. */
    static void fault(String text, int number, int place) {
        fault(new KeyMatrix(), text, number, place);
    }

    static void fault(KeyMatrix x, String text, int number, int place) {
        put(x, text);
        due("read() of " + text, x.read(), number);
        due("place() of " + text, x.place(), place);
    }

    static void close() {
        System.out.println(made + " answers, " + wrong + " wrong");
        if (wrong != 0) {
            System.exit(1);
        }
    }
}
