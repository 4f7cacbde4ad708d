/** Part II of the document, its sentences on what is SENT, on REPORTS and on the HOST, where they name a bound. */
public final class SentEdgeTest {
    private static final String SEVEN = "bounce 1;key 0 0 code 1;key 0 1 code 2;key 0 2 code 3;key 0 3 code 4;"
            + "key 0 4 code 5;key 0 5 code 6;key 0 6 code 7;key 0 7 code 8;key 0 8 mod 2;key 0 9 mod 5;";
    private static final String SIX = "board 2 5;diodes;six;" + SEVEN;

    private SentEdgeTest() {
    }

    public static void main(String[] args) {
        allMods();
        modOfTwo();
        codesOnce();
        orderOfBeginning();
        firstOfSeveral();
        chordCountsOnce();
        macroBehindAll();
        macroOfSentCode();
        allCodes();
        nothingAtFirst();
        unlikeTheLatest();
        unlikeByOrder();
        twoInOneTick();
        eachEventForItself();
        sixAreNotOver();
        sevenAreOver();
        overOnesAlike();
        overOnesUnlike();
        sevenWithoutSix();
        macroMakesOver();
        latestAtFirst();
        latestOfNewCode();
        latestStays();
        latestGoes();
        latestAnew();
        latestBehindOver();
        latestOfMacro();
        latestBehindManyReports();
        repeatsFromDelay();
        repeatsEachTick();
        repeatsAtMost();
        repeatsNotTold();
        repeatsAnew();
        repeatsOfNone();
        Checks.close();
    }

    private static void allMods() {
        Checks.sentence("SENT: MODS (bits) that KEYS do (the least and the greatest)");
        StringBuilder text = new StringBuilder("board 2 4;diodes;bounce 1;");
        for (int key = 0; key < 8; key++) {
            text.append("key 0 ").append(key).append(" mod ").append(key).append(';');
        }
        KeyMatrix x = Checks.board(text.toString());
        int bits = 0;
        for (int key = 0; key < 8; key++) {
            Checks.down(x, key);
            bits |= 1 << key;
            Checks.sent(x, bits);
            Checks.report(x, 0, key + 1, bits);
        }
        Checks.due("all", bits, 255);
        for (int key = 0; key < 8; key++) {
            Checks.up(x, key);
            bits ^= 1 << key;
            Checks.sent(x, bits);
        }
    }

    private static void modOfTwo() {
        Checks.sentence("SENT: MODS (bits) that KEYS do (two that do one)");
        KeyMatrix x = Checks.board("board 1 2;bounce 1;key 0 0 mod 4;key 0 1 mod 4;");
        Checks.down(x, 0, 1);
        Checks.due("one REPORT", x.count(3), 1);
        Checks.up(x, 0);
        Checks.sent(x, 16);
        Checks.up(x, 1);
        Checks.sent(x, 0);
        Checks.due("two REPORTS", x.count(3), 2);
    }

    private static void codesOnce() {
        Checks.sentence("SENT: codes that KEYS do, each once");
        KeyMatrix x = Checks.board("board 1 3;bounce 1;key 0 0 code 4;key 0 1 code 4;key 0 2 code 4;");
        Checks.down(x, 0, 1, 2);
        Checks.sent(x, 0, 4);
        Checks.due("one REPORT", x.count(3), 1);
        Checks.up(x, 1, 0);
        Checks.sent(x, 0, 4);
        Checks.due("still one", x.count(3), 1);
        Checks.up(x, 2);
        Checks.sent(x, 0);
    }

    private static void orderOfBeginning() {
        Checks.sentence("in the order in which the KEYS that do them now began");
        KeyMatrix x = Checks.board("board 1 4;bounce 1;key 0 0 code 10;key 0 1 code 11;key 0 2 code 12;key 0 3 code 13;");
        Checks.down(x, 3, 1, 0, 2);
        Checks.sent(x, 0, 13, 11, 10, 12);
        Checks.up(x, 1);
        Checks.down(x, 1);
        Checks.sent(x, 0, 13, 10, 12, 11);
        Checks.up(x, 3);
        Checks.sent(x, 0, 10, 12, 11);
        Checks.up(x, 1);
        Checks.sent(x, 0, 10, 12);
        // A KEY began when it did something, not when its EVENT came.
        x = Checks.board("board 1 2;bounce 1;term 5;key 0 0 hold 20 mod 1;key 0 1 code 21;");
        Checks.down(x, 0, 1);
        Checks.up(x, 0);
        Checks.report(x, 1, 3, 0, 20, 21);
    }

    private static void firstOfSeveral() {
        Checks.sentence("(of several that do one the first counts)");
        KeyMatrix x = Checks.board("board 1 4;bounce 1;key 0 0 code 10;key 0 1 code 11;key 0 2 code 10;key 0 3 code 12;");
        Checks.down(x, 0, 1, 2, 3);
        Checks.sent(x, 0, 10, 11, 12);
        Checks.up(x, 0);
        Checks.sent(x, 0, 11, 10, 12);
        Checks.down(x, 0);
        Checks.sent(x, 0, 11, 10, 12);
        Checks.up(x, 2);
        Checks.sent(x, 0, 11, 12, 10);
    }

    private static void chordCountsOnce() {
        Checks.sentence("codes that KEYS do, each once (two KEYS of a CHORD)");
        KeyMatrix x = Checks.board("board 1 3;bounce 1;key 0 2 code 9;chord 0 1 code 50;");
        Checks.down(x, 0, 1, 2);
        Checks.sent(x, 0, 50, 9);
        Checks.up(x, 1);
        Checks.sent(x, 0, 9);
    }

    private static void macroBehindAll() {
        Checks.sentence("(a MACRO's behind all)");
        KeyMatrix x = Checks.board("board 1 3;bounce 1;macro 1 2;key 0 0 code 100;key 0 1 code 3;key 0 2 play 0;");
        Checks.down(x, 0, 1, 2);
        Checks.report(x, 3, 3, 0, 100, 3, 1);
        Checks.report(x, 2, 3, 0, 100, 3);
        Checks.report(x, 1, 3, 0, 100, 3, 2);
        Checks.report(x, 0, 3, 0, 100, 3);
    }

    private static void macroOfSentCode() {
        Checks.sentence("each once (a MACRO's code that a KEY does)");
        KeyMatrix x = Checks.board("board 1 3;bounce 1;macro 3 1 3;key 0 0 code 3;key 0 1 code 4;key 0 2 play 0;");
        Checks.down(x, 0, 1);
        x.press(2, true);
        Checks.due("REPORTS", x.tick(1), 2);
        Checks.report(x, 1, 3, 0, 3, 4, 1);
        Checks.report(x, 0, 3, 0, 3, 4);
    }

    private static void allCodes() {
        Checks.sentence("SENT: codes that KEYS do (all 24 KEYS)");
        StringBuilder text = new StringBuilder("board 4 6;diodes;bounce 1;");
        int[] codes = new int[24];
        for (int key = 0; key < 24; key++) {
            codes[key] = 200 - key;
            text.append("key 0 ").append(key).append(" code ").append(codes[key]).append(';');
        }
        KeyMatrix x = Checks.board(text.toString());
        for (int key = 0; key < 24; key++) {
            x.press(key, true);
        }
        Checks.due("REPORTS", x.tick(1), 24);
        Checks.sent(x, 0, codes);
        Checks.report(x, 0, 1, 0, codes);
        Checks.report(x, 23, 1, 0, codes[0]);
    }

    private static void nothingAtFirst() {
        Checks.sentence("is it unlike the latest REPORT (at first: no MODS, no codes)");
        KeyMatrix x = Checks.board("board 1 2;bounce 1;key 0 1 layer 1;");
        Checks.strike(x, 0, 1);
        Checks.strike(x, 1, 1);
        Checks.due("no REPORT", x.count(3), 0);
        Checks.due("none is kept", x.report(0, 0), -1);
    }

    private static void unlikeTheLatest() {
        Checks.sentence("is it unlike the latest REPORT, it is a REPORT at NOW");
        KeyMatrix x = Checks.board("board 1 3;bounce 1;key 0 0 code 5;key 0 1 mod 1;key 0 2 code 5;");
        Checks.down(x, 0);
        Checks.report(x, 0, 1, 0, 5);
        Checks.down(x, 2);
        Checks.due("alike", x.count(3), 1);
        Checks.down(x, 1);
        Checks.report(x, 0, 3, 2, 5);
        Checks.up(x, 0);
        Checks.due("alike", x.count(3), 2);
        Checks.up(x, 2);
        Checks.report(x, 0, 5, 2);
        Checks.up(x, 1);
        Checks.report(x, 0, 6, 0);
        x.tick(50);
        Checks.due("no EVENT: no REPORT", x.count(3), 4);
    }

    private static void unlikeByOrder() {
        Checks.sentence("is it unlike the latest REPORT (the same codes in another order)");
        KeyMatrix x = Checks.board("board 1 3;bounce 1;key 0 0 code 5;key 0 1 code 6;key 0 2 code 5;");
        Checks.down(x, 0, 1, 2);
        Checks.due("REPORTS", x.count(3), 2);
        Checks.up(x, 0);
        Checks.report(x, 0, 4, 0, 6, 5);
        Checks.due("REPORTS", x.count(3), 3);
        Checks.host(x, 6, 2, 0, 0);
    }

    private static void twoInOneTick() {
        Checks.sentence("After each EVENT that was worked off: a REPORT at NOW");
        KeyMatrix x = Checks.board("board 1 4;bounce 1;key 0 0 code 5;key 0 1 code 6;key 0 2 mod 0;");
        for (int key = 0; key < 4; key++) {
            x.press(key, true);
        }
        Checks.due("REPORTS", x.tick(1), 3);
        Checks.report(x, 2, 1, 0, 5);
        Checks.report(x, 1, 1, 0, 5, 6);
        Checks.report(x, 0, 1, 1, 5, 6);
        for (int key = 0; key < 4; key++) {
            x.press(key, false);
        }
        Checks.due("REPORTS", x.tick(1), 3);
        Checks.report(x, 0, 2, 0);
    }

    private static void eachEventForItself() {
        Checks.sentence("After each EVENT that was worked off: at NOW (not at the EVENT's TICK)");
        KeyMatrix x = Checks.board("board 1 2;bounce 1;term 9;key 0 0 hold 5 mod 1;key 0 1 code 6;");
        Checks.down(x, 0, 1);
        x.tick(7);
        Checks.due("none yet", x.count(3), 0);
        Checks.due("REPORTS", x.tick(1), 2);
        Checks.report(x, 1, 10, 2);
        Checks.report(x, 0, 10, 2, 6);
    }

    private static void sixAreNotOver() {
        Checks.sentence("'six': a REPORT of more than 6 codes is OVER (6 are not)");
        KeyMatrix x = Checks.board(SIX);
        Checks.down(x, 0, 1, 2, 3, 4, 5, 8);
        Checks.report(x, 0, 7, 4, 1, 2, 3, 4, 5, 6);
        Checks.due("report(0, 8)", x.report(0, 8), 6);
        Checks.due("report(0, 9)", x.report(0, 9), -1);
    }

    private static void sevenAreOver() {
        Checks.sentence("'six': a REPORT of more than 6 codes is OVER: its codes are not sent");
        KeyMatrix x = Checks.board(SIX);
        Checks.down(x, 0, 1, 2, 3, 4, 5, 6);
        Checks.due("REPORTS", x.count(3), 7);
        Checks.due("TICK", x.report(0, 0), 7);
        Checks.due("MODS", x.report(0, 1), 0);
        Checks.due("OVER", x.report(0, 2), -2);
        for (int what = 3; what < 12; what++) {
            Checks.due("report(0, " + what + ")", x.report(0, what), -1);
        }
        Checks.report(x, 1, 6, 0, 1, 2, 3, 4, 5, 6);
        Checks.up(x, 3);
        Checks.report(x, 0, 8, 0, 1, 2, 3, 5, 6, 7);
    }

    private static void overOnesAlike() {
        Checks.sentence("(two OVER ones with the same MODS are alike)");
        KeyMatrix x = Checks.board(SIX);
        Checks.down(x, 0, 1, 2, 3, 4, 5, 6);
        x.press(7, true);
        Checks.due("8 codes", x.tick(1), 0);
        x.press(0, false);
        Checks.due("7 others", x.tick(1), 0);
        Checks.due("REPORTS", x.count(3), 7);
        Checks.due("since", x.report(0, 0), 7);
    }

    private static void overOnesUnlike() {
        Checks.sentence("two OVER ones with the same MODS (with others they are not alike)");
        KeyMatrix x = Checks.board(SIX);
        Checks.down(x, 0, 1, 2, 3, 4, 5, 6, 8);
        Checks.due("MODS", x.report(0, 1), 4);
        Checks.due("OVER", x.report(0, 2), -2);
        Checks.down(x, 9);
        Checks.due("MODS", x.report(0, 1), 36);
        Checks.up(x, 8);
        Checks.due("MODS", x.report(0, 1), 32);
        Checks.due("REPORTS", x.count(3), 10);
        // OVER is unlike no codes at all with the same MODS.
        x = Checks.board(SIX);
        for (int key = 0; key < 7; key++) {
            x.press(key, true);
        }
        x.tick(1);
        for (int key = 0; key < 7; key++) {
            x.press(key, false);
        }
        Checks.due("REPORTS", x.tick(1), 7);
        Checks.report(x, 0, 2, 0);
    }

    private static void sevenWithoutSix() {
        Checks.sentence("'six' (without it no REPORT is OVER)");
        KeyMatrix x = Checks.board("board 2 5;diodes;" + SEVEN);
        Checks.down(x, 0, 1, 2, 3, 4, 5, 6, 7);
        Checks.report(x, 1, 7, 0, 1, 2, 3, 4, 5, 6, 7);
        Checks.report(x, 0, 8, 0, 1, 2, 3, 4, 5, 6, 7, 8);
        Checks.host(x, 8, 8, 0, 0);
    }

    private static void macroMakesOver() {
        Checks.sentence("a REPORT of more than 6 codes is OVER (by a MACRO's)");
        KeyMatrix x = Checks.board("board 2 5;diodes;six;macro 6 7 8;" + SEVEN + "key 0 9 play 0;");
        Checks.down(x, 0, 1, 2, 3, 4, 5);
        x.press(9, true);
        Checks.due("REPORTS", x.tick(1), 4);
        Checks.due("OVER", x.report(3, 2), -2);
        Checks.report(x, 2, 7, 0, 1, 2, 3, 4, 5, 6);
        Checks.due("OVER", x.report(1, 2), -2);
        Checks.report(x, 0, 7, 0, 1, 2, 3, 4, 5, 6);
        Checks.host(x, 6, 7, 0, 0);
    }

    private static final String CODES = "board 1 5;bounce 1;key 0 0 code 1;key 0 1 code 2;key 0 2 code 3;key 0 3 mod 1;"
            + "key 0 4 code 1;";

    private static void latestAtFirst() {
        Checks.sentence("HOST: the LATEST code (none at first)");
        Checks.host(new KeyMatrix(), -1, -1, 0, -1);
        KeyMatrix x = Checks.board(CODES);
        Checks.host(x, -1, -1, 0, -1);
        Checks.down(x, 3);
        Checks.host(x, -1, -1, 0, -1);
        x.tick(50);
        Checks.host(x, -1, -1, 0, -1);
    }

    private static void latestOfNewCode() {
        Checks.sentence("with each REPORT that has a code that the REPORT ahead has not the last such one, from then on");
        KeyMatrix x = Checks.board(CODES);
        Checks.down(x, 2);
        Checks.host(x, 3, 1, 0, 0);
        Checks.down(x, 0);
        Checks.host(x, 1, 2, 0, 0);
        Checks.down(x, 1);
        Checks.host(x, 2, 3, 0, 0);
    }

    private static void latestStays() {
        Checks.sentence("from then on (REPORTS without a new code that have it still)");
        KeyMatrix x = Checks.board(CODES);
        Checks.down(x, 0, 1);
        Checks.down(x, 3);
        Checks.host(x, 2, 2, 0, 0);
        Checks.up(x, 0);
        Checks.host(x, 2, 2, 0, 0);
        Checks.up(x, 3);
        Checks.host(x, 2, 2, 0, 0);
        // A second KEY that does it makes no REPORT; the first one's UP makes none either.
        x = Checks.board(CODES);
        Checks.down(x, 0, 4);
        Checks.up(x, 0);
        Checks.host(x, 1, 1, 0, 0);
        Checks.up(x, 4);
        Checks.host(x, -1, -1, 0, -1);
    }

    private static void latestGoes() {
        Checks.sentence("none with a REPORT that has it not (though it has others)");
        KeyMatrix x = Checks.board(CODES);
        Checks.down(x, 0, 1, 2);
        Checks.up(x, 2);
        Checks.sent(x, 0, 1, 2);
        Checks.host(x, -1, -1, 0, -1);
        Checks.up(x, 1);
        Checks.host(x, -1, -1, 0, -1);
        Checks.down(x, 3);
        Checks.host(x, -1, -1, 0, -1);
    }

    private static void latestAnew() {
        Checks.sentence("from then on (the same code once more)");
        KeyMatrix x = Checks.board(CODES);
        Checks.strike(x, 0, 3);
        Checks.host(x, -1, -1, 0, -1);
        Checks.down(x, 0);
        Checks.host(x, 1, 5, 0, 0);
        Checks.down(x, 1);
        Checks.up(x, 0);
        Checks.down(x, 0);
        Checks.host(x, 1, 8, 0, 0);
    }

    private static void latestBehindOver() {
        Checks.sentence("(an OVER one has none): all codes behind it are new, the last counts");
        KeyMatrix x = Checks.board(SIX);
        Checks.down(x, 0, 1, 2, 3, 4, 5);
        Checks.host(x, 6, 6, 0, 0);
        Checks.down(x, 6);
        Checks.host(x, -1, -1, 0, -1);
        Checks.down(x, 8);
        Checks.host(x, -1, -1, 0, -1);
        Checks.up(x, 6);
        Checks.host(x, 6, 9, 0, 0);
        Checks.down(x, 6);
        Checks.up(x, 5);
        Checks.host(x, 7, 11, 0, 0);
        Checks.up(x, 0);
        Checks.host(x, 7, 11, 0, 0);
    }

    private static void latestOfMacro() {
        Checks.sentence("the LATEST code (a MACRO's comes and goes)");
        KeyMatrix x = Checks.board("board 1 3;bounce 1;repeat 1 1;macro 7 8;key 0 0 code 1;key 0 1 play 0;");
        Checks.down(x, 0);
        Checks.host(x, 1, 1, 0, 0);
        Checks.down(x, 1);
        Checks.sent(x, 0, 1);
        Checks.host(x, -1, -1, 0, -1);
        x.tick(9);
        Checks.host(x, -1, -1, 0, -1);
    }

    private static void latestBehindManyReports() {
        Checks.sentence("a code that the REPORT ahead has not (however many came)");
        KeyMatrix x = Checks.board("board 1 3;bounce 1;key 0 0 code 1;key 0 1 code 2;key 0 2 mod 0;");
        // 41 REPORTS, so that where one with codes was kept there is one without.
        for (int i = 0; i < 20; i++) {
            Checks.strike(x, 0, 1);
        }
        Checks.down(x, 2);
        for (int i = 0; i < 20; i++) {
            Checks.down(x, i % 2);
            Checks.due("the LATEST", x.host(0), 1 + i % 2);
            Checks.due("since", x.host(1), 42 + 2 * i);
            Checks.up(x, i % 2);
            Checks.due("none", x.host(0), -1);
        }
        Checks.due("REPORTS", x.count(3), 81);
    }

    private static KeyMatrix repeating(int delay, int rate) {
        KeyMatrix x = Checks.board("board 1 2;bounce 1;repeat " + delay + " " + rate + ";key 0 0 code 1;key 0 1 code 2;");
        Checks.down(x, 0);
        return x;
    }

    private static void repeatsFromDelay() {
        Checks.sentence("is m DELAY or more, and m less DELAY a multiple of RATE: it REPEATS once more");
        KeyMatrix x = repeating(4, 3);
        int[] repeats = {0, 0, 0, 0, 1, 1, 1, 2, 2, 2, 3, 3, 3, 4};
        for (int m = 1; m < repeats.length; m++) {
            x.tick(1);
            Checks.host(x, 1, 1, repeats[m], repeats[m]);
        }
        x = repeating(4, 20);
        x.tick(23);
        Checks.host(x, 1, 1, 1, 1);
        x.tick(1);
        Checks.host(x, 1, 1, 2, 2);
    }

    private static void repeatsEachTick() {
        Checks.sentence("DELAY 1 and RATE 1: m less DELAY a multiple of RATE with each TICK");
        KeyMatrix x = repeating(1, 1);
        Checks.host(x, 1, 1, 0, 0);
        x.tick(1);
        Checks.host(x, 1, 1, 1, 1);
        x.tick(50);
        Checks.host(x, 1, 1, 51, 51);
    }

    private static void repeatsAtMost() {
        Checks.sentence("DELAY 99 and RATE 20: is m DELAY or more");
        KeyMatrix x = repeating(99, 20);
        x.tick(49);
        x.tick(49);
        Checks.host(x, 1, 1, 0, 0);
        x.tick(1);
        Checks.host(x, 1, 1, 1, 1);
        x.tick(19);
        Checks.host(x, 1, 1, 1, 1);
        x.tick(1);
        Checks.host(x, 1, 1, 2, 2);
    }

    private static void repeatsNotTold() {
        Checks.sentence("DELAY (20) and RATE (5)");
        KeyMatrix x = Checks.board("board 1 1;bounce 1;key 0 0 code 1;");
        Checks.down(x, 0);
        x.tick(19);
        Checks.host(x, 1, 1, 0, 0);
        x.tick(1);
        Checks.host(x, 1, 1, 1, 1);
        x.tick(4);
        Checks.host(x, 1, 1, 1, 1);
        x.tick(1);
        Checks.host(x, 1, 1, 2, 2);
    }

    private static void repeatsAnew() {
        Checks.sentence("the TICK of the REPORT with which the LATEST code became so");
        KeyMatrix x = repeating(3, 1);
        x.tick(4);
        Checks.host(x, 1, 1, 2, 2);
        Checks.down(x, 1);
        Checks.host(x, 2, 6, 2, 0);
        x.tick(2);
        Checks.host(x, 2, 6, 2, 0);
        Checks.up(x, 0);
        Checks.host(x, 2, 6, 3, 1);
        x.tick(1);
        Checks.host(x, 2, 6, 4, 2);
        Checks.down(x, 0);
        Checks.host(x, 1, 11, 4, 0);
    }

    private static void repeatsOfNone() {
        Checks.sentence("it REPEATS once more (none does not)");
        KeyMatrix x = repeating(1, 1);
        x.tick(2);
        Checks.up(x, 0);
        Checks.host(x, -1, -1, 2, -1);
        x.tick(50);
        Checks.host(x, -1, -1, 2, -1);
        Checks.down(x, 0);
        Checks.host(x, 1, 55, 2, 0);
        x.tick(1);
        Checks.host(x, 1, 55, 3, 1);
    }
}
