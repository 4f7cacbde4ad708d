import java.util.Random;

/** Runs of up to 512 calls, made from fixed seeds: every answer as the model's, and never an exception. */
public final class FuzzTest {
    private static final int RUNS = 2500;
    private static final int CALLS = 512;

    private final Random random;
    private final long seed;
    private final KeyMatrix matrix = new KeyMatrix();
    private final Model model = new Model();
    private final StringBuilder calls = new StringBuilder();
    private int made;
    private int keys;

    private FuzzTest(long seed) {
        this.seed = seed;
        random = new Random(seed);
    }

    /** Without arguments the seeds from 1 on; else the first seed and how many. */
    public static void main(String[] args) {
        long first = args.length > 0 ? Long.parseLong(args[0]) : 1;
        int runs = args.length > 1 ? Integer.parseInt(args[1]) : RUNS;
        for (int i = 0; i < runs; i++) {
            new FuzzTest(first + i).run();
        }
        System.out.println(runs + " runs are as the model's");
    }

    private void run() {
        if (random.nextInt(8) == 0) {
            strange(20);
        }
        while (made < CALLS - 40) {
            text();
            int rest = random.nextInt(4) == 0 ? 30 : 450;
            for (int i = 0; i < rest && made < CALLS - 40; i++) {
                step();
            }
        }
    }

    private void due(String call, long got, long want) {
        made++;
        calls.append(call).append(" = ").append(want).append('\n');
        if (got != want) {
            System.out.println(calls);
            System.out.println("seed " + seed + ": " + call + " answered " + got + ", due is " + want);
            System.exit(1);
        }
    }

    private int upTo(int bound) {
        return random.nextInt(bound);
    }

    private int among(int... numbers) {
        return numbers[upTo(numbers.length)];
    }

    // ---- texts

    private void text() {
        String text = good();
        if (upTo(6) == 0) {
            text = spoilt(text);
        }
        int fed = 0;
        for (int i = 0; i < text.length(); i += 20) {
            int[] fours = new int[5];
            for (int j = 0; j < 20; j++) {
                int one = i + j < text.length() ? text.charAt(i + j) : upTo(256);
                fours[j / 4] = fours[j / 4] << 8 | one;
            }
            if (made % 100 < 60) {
                due("feed", matrix.feed(fours[0], fours[1], fours[2], fours[3], fours[4]),
                        model.feed(fours[0], fours[1], fours[2], fours[3], fours[4]));
            } else {
                matrix.feed(fours[0], fours[1], fours[2], fours[3], fours[4]);
                model.feed(fours[0], fours[1], fours[2], fours[3], fours[4]);
                made++;
            }
            fed += 20;
        }
        calls.append("text: ").append(text).append('\n');
        due("back", matrix.back(fed - text.length()), model.back(fed - text.length()));
        due("count(11)", matrix.count(11), model.count(11));
        due("read()", matrix.read(), model.read());
        due("place()", matrix.place(), model.place());
        keys = model.count(0) * model.count(1);
    }

    private String good() {
        int rows = upTo(3) == 0 ? 1 : 1 + upTo(4);
        int columns = 1 + upTo(6);
        int size = rows * columns;
        StringBuilder text = new StringBuilder("board " + rows + gap() + columns + ";");
        if (upTo(3) == 0) {
            text.append("diodes;");
        }
        if (upTo(4) == 0) {
            text.append("six;");
        }
        setting(text, "bounce", among(1, 1, 1, 2, 3, 9), 5);
        setting(text, "term", among(1, 2, 3, 4, 6, 12, 99), 4);
        setting(text, "chording", among(1, 2, 3, 5, 20), 4);
        setting(text, "twice", among(1, 2, 3, 5, 8, 40), 4);
        if (upTo(3) > 0) {
            text.append("repeat " + among(1, 2, 3, 7, 99) + gap() + among(1, 2, 3, 20) + ";");
        }
        int macros = upTo(4);
        for (int i = 0; i < macros; i++) {
            text.append("macro");
            for (int j = upTo(8); j >= 0; j--) {
                text.append(gap()).append(code());
            }
            text.append(";");
        }
        boolean[] taken = new boolean[size];
        for (int i = upTo(5); i > 0; i--) {
            int first = upTo(size);
            int other = upTo(size);
            if (first != other && !taken[first] && !taken[other]) {
                taken[first] = true;
                taken[other] = true;
                text.append("chord " + first + gap() + other + " "
                        + (upTo(3) > 0 ? "code " + code() : upTo(2) == 0 ? "mod " + upTo(8) : "play " + upTo(4)) + ";");
            }
        }
        boolean plain = upTo(5) == 0;
        for (int layer = 0; layer < 4; layer++) {
            for (int key = 0; key < size; key++) {
                if (text.length() < 1900 && upTo(layer + 1) == 0) {
                    text.append("key " + layer + gap() + key + " " + (plain ? "code " + (key + 1) : deed()) + ";");
                }
            }
        }
        return text.toString();
    }

    private void setting(StringBuilder text, String word, int number, int often) {
        if (upTo(often) > 0) {
            text.append(word + gap() + number + ";");
        }
    }

    private String gap() {
        return upTo(20) == 0 ? "\r\n\t 00" : " ";
    }

    private int code() {
        return upTo(4) == 0 ? 1 + upTo(200) : 1 + upTo(9);
    }

    private String deed() {
        switch (upTo(14)) {
            case 0:
                return "mod " + upTo(8);
            case 1:
            case 2:
            case 3:
                return "layer " + (1 + upTo(3));
            case 4:
                return "toggle " + (1 + upTo(3));
            case 5:
                return "nothing";
            case 6:
                return "below";
            case 7:
            case 8:
                return "hold " + code() + (upTo(3) > 0 ? " layer " + (1 + upTo(3)) : " mod " + upTo(8));
            case 9:
                return "double " + code() + gap() + code();
            case 10:
                return "play " + upTo(4);
            default:
                return "code " + code();
        }
    }

    private String spoilt(String text) {
        StringBuilder spoilt = new StringBuilder(text);
        String[] pieces = {"key ", ";", "chord 1 2 code 5;", "chord 3 3 mod 1;", "macro 1 2 3 4 5 6 7 8 9;", "macro 4;",
            " 7 ", "12345", "B", "\u00e9", "chord 0 1 layer 2;", "hold", "layer 0", "twice 41;", "repeat 5;", "{", "9999",
            "chording 0;", "six", "mod", "chord 90 90 code 1;", "macro 0;", "key 0 0 hold 3 mod 8;", "macro 1 2 201;"};
        for (int i = upTo(3); i >= 0 && spoilt.length() > 0; i--) {
            int at = upTo(spoilt.length());
            switch (upTo(5)) {
                case 0:
                    spoilt.deleteCharAt(at);
                    break;
                case 1:
                    spoilt.setLength(at);
                    break;
                case 2:
                    int line = spoilt.indexOf(";", at) + 1;
                    spoilt.insert(line, pieces[upTo(pieces.length)]);
                    break;
                case 3:
                    spoilt.insert(at, pieces[upTo(pieces.length)]);
                    break;
                default:
                    String many = pieces[upTo(pieces.length)];
                    while (spoilt.length() < 2000 - many.length()) {
                        spoilt.append(upTo(3) == 0 ? many : "six;");
                    }
                    break;
            }
        }
        if (spoilt.length() > 2000) {
            spoilt.setLength(2000);
        }
        return spoilt.toString();
    }

    // ---- calls

    private void step() {
        switch (upTo(10)) {
            case 0:
            case 1:
            case 2:
            case 3:
                int key = upTo(keys + 1);
                boolean closed = upTo(40) == 0 ? upTo(2) == 0 : key >= keys || !isClosed(key);
                due("press(" + key + ", " + closed + ")", matrix.press(key, closed) ? 1 : 0, model.press(key, closed) ? 1 : 0);
                if (upTo(3) == 0) {
                    break;
                }
                ticks(upTo(12) == 0 ? upTo(52) : 1 + upTo(3));
                break;
            case 4:
                ticks(upTo(12) == 0 ? upTo(52) : 1 + upTo(6));
                break;
            case 5:
                int n = upTo(3) == 0 ? 1 + upTo(120) : 1 + upTo(6);
                int what = upTo(6);
                due("ahead(" + n + ", " + what + ")", matrix.ahead(n, what), model.ahead(n, what));
                break;
            case 6:
                if (upTo(4) == 0) {
                    strange(1);
                } else {
                    slots();
                }
                break;
            default:
                ask();
                break;
        }
    }

    private boolean isClosed(int key) {
        return model.key(key, 0) == 1;
    }

    private void ticks(int n) {
        due("tick(" + n + ")", matrix.tick(n), model.tick(n));
    }

    private void slots() {
        int slot = upTo(4);
        if (upTo(2) == 0) {
            due("hold(" + slot + ")", matrix.hold(slot) ? 1 : 0, model.hold(slot) ? 1 : 0);
        } else if (upTo(3) == 0) {
            due("restore(" + slot + ")", matrix.restore(slot) ? 1 : 0, model.restore(slot) ? 1 : 0);
        }
    }

    private void ask() {
        int key = upTo(keys + 1);
        int what = upTo(7);
        switch (upTo(12)) {
            case 0:
                due("key(" + key + ", " + what + ")", matrix.key(key, what), model.key(key, what));
                break;
            case 1:
                int layer = upTo(6) - 1;
                due("deed(" + layer + ", " + key + ", " + what / 2 + ")", matrix.deed(layer, key, what / 2),
                        model.deed(layer, key, what / 2));
                break;
            case 2:
                due("does(" + key + ", " + what / 3 + ")", matrix.does(key, what / 3), model.does(key, what / 3));
                break;
            case 3:
                int event = upTo(4) - 1;
                due("event(" + event + ", " + what / 2 + ")", matrix.event(event, what / 2), model.event(event, what / 2));
                break;
            case 4:
            case 5:
                int report = upTo(4) == 0 ? upTo(42) : upTo(3);
                due("report(" + report + ", " + what + ")", matrix.report(report, what), model.report(report, what));
                break;
            case 6:
                due("sent(" + what + ")", matrix.sent(what), model.sent(what));
                break;
            case 7:
                due("host(" + what + ")", matrix.host(what), model.host(what));
                break;
            case 8:
                due("strokes(" + key + ", " + what / 2 + ")", matrix.strokes(key, what / 2), model.strokes(key, what / 2));
                break;
            case 9:
                int i = upTo(5) - 1;
                due("chord(" + i + ", " + what / 2 + ")", matrix.chord(i, what / 2), model.chord(i, what / 2));
                break;
            case 10:
                int set = upTo(10) == 0 ? random.nextInt() : upTo(1 << keys) & random.nextInt();
                due("ghosts(" + set + ", " + what / 2 + ")", matrix.ghosts(set, what / 2), model.ghosts(set, what / 2));
                break;
            default:
                int counted = upTo(23);
                due("count(" + counted + ")", matrix.count(counted), model.count(counted));
                break;
        }
    }

    private int any() {
        return among(Integer.MIN_VALUE, Integer.MIN_VALUE + 1, -3, -2, -1, 0, 1, 2, 3, 23, 24, 39, 40, 41, 50, 120,
                Integer.MAX_VALUE, random.nextInt());
    }

    private void strange(int times) {
        for (int i = 0; i < times; i++) {
            int a = any();
            int b = any();
            int c = any();
            String of = "(" + a + ", " + b + ", " + c + ")";
            switch (upTo(17)) {
                case 0: due("tick" + of, matrix.tick(a), model.tick(a)); break;
                case 1: due("key" + of, matrix.key(a, b), model.key(a, b)); break;
                case 2: due("deed" + of, matrix.deed(a, b, c), model.deed(a, b, c)); break;
                case 3: due("does" + of, matrix.does(a, b), model.does(a, b)); break;
                case 4: due("event" + of, matrix.event(a, b), model.event(a, b)); break;
                case 5: due("report" + of, matrix.report(a, b), model.report(a, b)); break;
                case 6: due("sent" + of, matrix.sent(a), model.sent(a)); break;
                case 7: due("host" + of, matrix.host(a), model.host(a)); break;
                case 8: due("strokes" + of, matrix.strokes(a, b), model.strokes(a, b)); break;
                case 9: due("chord" + of, matrix.chord(a, b), model.chord(a, b)); break;
                case 10: due("macro" + of, matrix.macro(a, b), model.macro(a, b)); break;
                case 11: due("ghosts" + of, matrix.ghosts(a, b), model.ghosts(a, b)); break;
                case 12: due("ahead" + of, matrix.ahead(a, b), model.ahead(a, b)); break;
                case 13: due("hold" + of, matrix.hold(a) ? 1 : 0, model.hold(a) ? 1 : 0); break;
                case 14: due("restore" + of, matrix.restore(a) ? 1 : 0, model.restore(a) ? 1 : 0); break;
                case 15: due("press" + of, matrix.press(a, c > 0) ? 1 : 0, model.press(a, c > 0) ? 1 : 0); break;
                default: due("back" + of, matrix.back(a), model.back(a)); break;
            }
        }
    }
}
