/** Part II of the document, its sentences on layers, chords, holds, doubles and what keys do, where they name a bound. */
public final class QueueEdgeTest {
    private QueueEdgeTest() {
    }

    public static void main(String[] args) {
        layerZeroAlways();
        greatestLayer();
        belowAllTheWay();
        layerHeldAndToggled();
        layerHeldByTwo();
        layerOfKeyThatIsDown();
        deedOfTheMoment();
        chordInTime();
        chordTooLate();
        chordWaits();
        chordOfEitherOrder();
        chordNeedsTheNextEvent();
        chordNeedsDown();
        chordNeedsItsOwnKey();
        chordElseItsDeed();
        chordThenHold();
        heldByLaterEvent();
        tappedInTime();
        heldByNow();
        heldByAnother();
        heldByFirstOfTwo();
        notHeldByEarlierKey();
        notHeldByDownAlone();
        firstThatFits();
        onceByLaterEvent();
        twiceInTime();
        onceByNow();
        onceByAnother();
        notOnceByUps();
        twiceTakesTheFirst();
        twiceThenAnew();
        toggledAndNoMore();
        playsNothing();
        playsEight();
        doesTillUp();
        doesNothing();
        chordOneUp();
        chordStruckAgain();
        chordOfMods();
        Checks.close();
    }

    private static void layerZeroAlways() {
        Checks.sentence("ACTIVE LAYERS: 0");
        Checks.due("without a BOARD", new KeyMatrix().count(4), 1);
        KeyMatrix x = Checks.board("board 1 3;bounce 1;key 0 0 layer 1;key 0 1 layer 2;key 0 2 toggle 3;");
        Checks.due("at first", x.count(4), 1);
        Checks.down(x, 0, 1, 2);
        Checks.due("all four", x.count(4), 15);
        Checks.up(x, 0, 1, 2);
        Checks.due("and the TOGGLED one", x.count(4), 9);
        Checks.strike(x, 2, 1);
        Checks.due("at last", x.count(4), 1);
    }

    private static void greatestLayer() {
        Checks.sentence("that of the greatest ACTIVE LAYER in which it is not 'below'");
        KeyMatrix x = Checks.board("board 1 4;bounce 1;key 0 0 layer 3;key 0 1 layer 1;key 0 2 layer 2;"
                + "key 0 3 code 10;key 1 3 code 11;key 3 3 code 13;");
        Checks.due("0", x.deed(-1, 3, 1), 10);
        Checks.down(x, 0);
        Checks.due("0 and 3", x.deed(-1, 3, 1), 13);
        Checks.down(x, 1, 2);
        Checks.due("0 to 3", x.deed(-1, 3, 1), 13);
        Checks.up(x, 0);
        Checks.due("0, 1 and 2 (below)", x.deed(-1, 3, 1), 11);
        Checks.up(x, 1);
        Checks.due("0 and 2 (below)", x.deed(-1, 3, 1), 10);
        Checks.down(x, 3);
        Checks.sent(x, 0, 10);
    }

    private static void belowAllTheWay() {
        Checks.sentence("(on LAYER 0 'below' is 'nothing')");
        KeyMatrix x = Checks.board("board 1 1;bounce 1;key 0 0 below;key 3 0 below;");
        Checks.due("word", x.deed(-1, 0, 0), 4);
        Checks.due("as told", x.deed(0, 0, 0), 5);
        x.press(0, true);
        Checks.due("REPORTS", x.tick(1), 0);
        Checks.does(x, 0, -1, -1);
        Checks.due("the EVENT goes", x.event(-1, 0), 0);
    }

    private static void layerHeldAndToggled() {
        Checks.sentence("ACTIVE LAYERS: those that some KEY holds; those that are TOGGLED (one that is both)");
        KeyMatrix x = Checks.board("board 1 2;bounce 1;key 0 0 layer 2;key 0 1 toggle 2;");
        Checks.down(x, 0, 1);
        Checks.due("both", x.count(4), 5);
        Checks.due("TOGGLED", x.count(5), 4);
        Checks.up(x, 0);
        Checks.due("still TOGGLED", x.count(4), 5);
        Checks.down(x, 0);
        Checks.up(x, 1);
        Checks.down(x, 1);
        Checks.due("no more TOGGLED", x.count(5), 0);
        Checks.due("still held", x.count(4), 5);
        Checks.up(x, 0);
        Checks.due("neither", x.count(4), 1);
    }

    private static void layerHeldByTwo() {
        Checks.sentence("ACTIVE LAYERS: those that some KEY that is down holds (two that hold one)");
        KeyMatrix x = Checks.board("board 1 2;bounce 1;term 1;key 0 0 layer 1;key 0 1 hold 3 layer 1;key 1 1 layer 1;");
        Checks.down(x, 0, 1);
        Checks.due("two", x.count(4), 3);
        Checks.up(x, 0);
        Checks.due("one", x.count(4), 3);
        Checks.up(x, 1);
        Checks.due("none", x.count(4), 1);
    }

    private static void layerOfKeyThatIsDown() {
        Checks.sentence("ACTIVE LAYERS: those that some KEY that is down holds (its UP waits: its STATE is up)");
        KeyMatrix x = Checks.board("board 1 3;bounce 1;chording 9;key 0 0 layer 1;key 1 1 code 8;key 0 1 code 4;chord 1 2 mod 1;");
        Checks.down(x, 0, 1);
        Checks.due("the chord's key waits", x.event(-1, 0), 1);
        Checks.due("its deed", x.deed(-1, 1, 1), 8);
        x.press(0, false);
        Checks.due("it does what it does now", x.tick(1), 1);
        Checks.sent(x, 0, 4);
        Checks.due("LAYERS", x.count(4), 1);
    }

    private static void deedOfTheMoment() {
        Checks.sentence("(2) its DEED (when the EVENT is worked off; k DOES, till it is UP)");
        KeyMatrix x = Checks.board("board 1 2;bounce 1;key 0 0 layer 1;key 0 1 code 4;key 1 1 code 8;");
        Checks.down(x, 1, 0);
        Checks.sent(x, 0, 4);
        Checks.up(x, 1);
        Checks.down(x, 1);
        Checks.up(x, 0);
        Checks.sent(x, 0, 8);
        Checks.due("its DEED now", x.deed(-1, 1, 1), 4);
    }

    private static String chord(int chording) {
        return "board 1 4;bounce 1;chording " + chording + ";key 0 0 code 1;key 0 1 code 2;key 0 2 code 3;"
                + "chord 0 1 code 50;chord 2 3 code 60;";
    }

    private static void chordInTime() {
        Checks.sentence("DOWN of the CHORD's other KEY, at less than t and CHORDING: together");
        for (int chording : new int[] {2, 3, 20}) {
            KeyMatrix x = Checks.board(chord(chording));
            x.press(0, true);
            Checks.due("waits", x.tick(chording - 1), 0);
            x.press(1, true);
            Checks.due("one REPORT", x.tick(1), 1);
            Checks.report(x, 0, chording, 0, 50);
            Checks.does(x, 0, 0, 50);
            Checks.does(x, 1, 0, 50);
            Checks.due("both EVENTS go", x.event(-1, 0), 0);
        }
        KeyMatrix x = Checks.board(chord(1));
        x.press(0, true);
        x.press(1, true);
        Checks.due("in one TICK", x.tick(1), 1);
        Checks.sent(x, 0, 50);
    }

    private static void chordTooLate() {
        Checks.sentence("DOWN of the CHORD's other KEY, at t and CHORDING: its DEED");
        for (int chording : new int[] {1, 2, 3, 20}) {
            KeyMatrix x = Checks.board(chord(chording));
            x.press(0, true);
            Checks.due("waits", x.tick(chording), 0);
            Checks.due("one EVENT", x.event(-1, 0), 1);
            x.press(1, true);
            Checks.due("the first alone", x.tick(1), 1);
            Checks.report(x, 0, 1 + chording, 0, 1);
            Checks.due("the other waits", x.event(0, 0), 1);
            Checks.due("no chord", x.chord(0, 2), 0);
        }
    }

    private static void chordWaits() {
        Checks.sentence("Is there no EVENT behind it, and NOW less than t and CHORDING: it waits");
        for (int chording : new int[] {1, 2, 3, 20}) {
            KeyMatrix x = Checks.board(chord(chording));
            x.tick(5);
            x.press(1, true);
            Checks.due("REPORTS before the end", x.tick(chording), 0);
            Checks.due("it waits", x.event(-1, 0), 1);
            Checks.does(x, 1, -1, -1);
            Checks.due("REPORTS at the end", x.tick(1), 1);
            Checks.report(x, 0, 6 + chording, 0, 2);
            Checks.due("it is gone", x.event(-1, 0), 0);
        }
        KeyMatrix x = Checks.board("board 1 2;bounce 1;key 0 0 code 1;chord 1 0 code 5;");
        x.press(0, true);
        Checks.due("not told: 3", x.tick(3), 0);
        Checks.due("at the end", x.tick(1), 1);
    }

    private static void chordOfEitherOrder() {
        Checks.sentence("Is k in a CHORD (the first or the other one)");
        int[][] orders = {{0, 1}, {1, 0}, {2, 3}, {3, 2}};
        for (int[] keys : orders) {
            KeyMatrix x = Checks.board(chord(3));
            Checks.down(x, keys);
            Checks.sent(x, 0, keys[0] < 2 ? 50 : 60);
            Checks.due("chord 0 is done", x.chord(0, 2), keys[0] < 2 ? 1 : 0);
            Checks.due("chord 1 is done", x.chord(1, 2), keys[0] < 2 ? 0 : 1);
        }
    }

    private static void chordNeedsTheNextEvent() {
        Checks.sentence("is the next EVENT behind it DOWN of the CHORD's other KEY (another EVENT comes between)");
        KeyMatrix x = Checks.board(chord(9));
        Checks.down(x, 2);
        x.tick(9);
        Checks.down(x, 0);
        Checks.due("it waits", x.event(-1, 0), 1);
        x.press(2, false);
        Checks.due("UP of another: alone", x.tick(1), 2);
        Checks.sent(x, 0, 1);
        // UP of another in the very TICK in which the chord's other key goes down, but behind it by its number.
        x = Checks.board(chord(9));
        Checks.down(x, 2);
        x.tick(9);
        Checks.down(x, 0);
        x.press(2, false);
        x.press(1, true);
        x.tick(1);
        Checks.sent(x, 0, 50);
        // UP of itself, and DOWN of the other behind that.
        x = Checks.board(chord(9));
        Checks.down(x, 0);
        x.press(0, false);
        x.press(1, true);
        x.tick(1);
        Checks.sent(x, 0);
        Checks.report(x, 1, 2, 0, 1);
        Checks.due("the other waits", x.event(0, 0), 1);
    }

    private static void chordNeedsDown() {
        Checks.sentence("is the next EVENT behind it DOWN of the CHORD's other KEY (it is UP of that)");
        KeyMatrix x = Checks.board(chord(3));
        Checks.down(x, 1);
        x.tick(3);
        Checks.sent(x, 0, 2);
        Checks.down(x, 0);
        Checks.due("it waits", x.event(-1, 0), 1);
        Checks.up(x, 1);
        Checks.sent(x, 0, 1);
        Checks.report(x, 1, 6, 0, 2, 1);
        Checks.due("no chord", x.chord(0, 2), 0);
        Checks.due("EVENTS", x.event(-1, 0), 0);
    }

    private static void chordNeedsItsOwnKey() {
        Checks.sentence("is the next EVENT behind it DOWN of the CHORD's other KEY (a KEY of another CHORD)");
        KeyMatrix x = Checks.board(chord(9));
        Checks.down(x, 0, 2);
        Checks.sent(x, 0, 1);
        Checks.due("that one waits in turn", x.event(0, 0), 2);
        Checks.down(x, 3);
        Checks.sent(x, 0, 1, 60);
    }

    private static void chordElseItsDeed() {
        Checks.sentence("Else, or in no CHORD: (2) its DEED");
        KeyMatrix x = Checks.board("board 1 3;bounce 1;chording 20;key 0 2 code 3;chord 0 1 code 50;");
        x.press(2, true);
        Checks.due("in no CHORD: at once", x.tick(1), 1);
        Checks.sent(x, 0, 3);
        x.press(0, true);
        Checks.due("'nothing', though it waits", x.tick(20), 0);
        Checks.due("EVENTS", x.event(-1, 0), 1);
        x.tick(1);
        Checks.due("EVENTS", x.event(-1, 0), 0);
    }

    private static void chordThenHold() {
        Checks.sentence("Else: (2) its DEED. (3) 'hold' (t is the same one)");
        String text = "board 1 3;bounce 1;chording 3;term 5;key 0 0 hold 9 mod 1;key 0 2 code 3;chord 0 1 code 50;";
        KeyMatrix x = Checks.board(text);
        x.press(0, true);
        x.tick(5);
        Checks.due("it waits for its TERM", x.event(-1, 0), 1);
        x.tick(1);
        Checks.report(x, 0, 6, 2);
        // A CHORDING that is longer than the TERM: held as soon as the chord is out of question.
        x = Checks.board("board 1 2;bounce 1;chording 9;term 2;key 0 0 hold 9 mod 1;chord 0 1 code 50;");
        x.press(0, true);
        Checks.due("it waits for its CHORDING", x.tick(9), 0);
        x.tick(1);
        Checks.report(x, 0, 10, 2);
        x = Checks.board(text);
        Checks.down(x, 0, 2);
        Checks.due("another's DOWN: no CHORD, and no HELD", x.event(-1, 0), 2);
        Checks.down(x, 1);
        Checks.due("nor a CHORD later", x.event(-1, 0), 3);
        Checks.up(x, 0);
        Checks.report(x, 2, 4, 0, 9);
    }

    private static String hold(int term) {
        return "board 1 4;bounce 1;term " + term + ";key 0 1 hold 9 mod 3;key 0 0 code 4;key 0 2 code 5;key 0 3 code 6;";
    }

    private static void heldByLaterEvent() {
        Checks.sentence("is one at t and TERM or later: HELD");
        for (int term : new int[] {1, 2, 7, 99}) {
            for (int key : new int[] {0, 1}) {
                KeyMatrix x = Checks.board(hold(term));
                x.press(1, true);
                for (int left = term; left > 0; left -= 50) {
                    x.tick(Math.min(left, 50));
                }
                Checks.due("it waits", x.event(-1, 0), 1);
                x.press(key, key != 1);
                Checks.due("REPORTS", x.tick(1), 2);
                Checks.report(x, 1, 1 + term, 8);
                Checks.due("its MOD goes, or the other's code comes", x.report(0, 2), key == 1 ? 0 : 1);
            }
        }
    }

    private static void tappedInTime() {
        Checks.sentence("is it UP of k: TAPPED (at less than t and TERM)");
        for (int term : new int[] {2, 7, 50}) {
            KeyMatrix x = Checks.board(hold(term));
            x.press(1, true);
            Checks.due("it waits", x.tick(term - 1), 0);
            x.press(1, false);
            Checks.due("REPORTS", x.tick(1), 2);
            Checks.report(x, 1, term, 0, 9);
            Checks.report(x, 0, term, 0);
        }
    }

    private static void heldByNow() {
        Checks.sentence("Is none so: HELD if NOW is t and TERM or more, else it waits");
        for (int term : new int[] {1, 2, 7, 49}) {
            KeyMatrix x = Checks.board(hold(term));
            x.press(1, true);
            Checks.due("it waits", x.tick(term), 0);
            Checks.due("EVENTS", x.event(-1, 0), 1);
            Checks.does(x, 1, -1, -1);
            Checks.due("HELD", x.tick(1), 1);
            Checks.does(x, 1, 1, 3);
            Checks.report(x, 0, 1 + term, 8);
        }
        KeyMatrix x = Checks.board("board 1 1;bounce 1;key 0 0 hold 9 mod 3;");
        x.press(0, true);
        Checks.due("not told: 8", x.tick(8), 0);
        Checks.due("HELD", x.tick(1), 1);
    }

    private static void heldByAnother() {
        Checks.sentence("is it UP of another KEY of which a DOWN is among those gone through: HELD");
        KeyMatrix x = Checks.board(hold(20));
        Checks.down(x, 1, 2);
        Checks.due("they wait", x.event(-1, 0), 2);
        x.press(2, false);
        Checks.due("REPORTS", x.tick(1), 3);
        Checks.report(x, 2, 3, 8);
        Checks.report(x, 1, 3, 8, 5);
        Checks.report(x, 0, 3, 8);
        Checks.does(x, 1, 1, 3);
    }

    private static void heldByFirstOfTwo() {
        Checks.sentence("a DOWN is among those gone through (of several that went down)");
        for (int first : new int[] {2, 3}) {
            KeyMatrix x = Checks.board(hold(20));
            Checks.down(x, 1, 2, 3);
            Checks.due("they wait", x.event(-1, 0), 3);
            Checks.up(x, first);
            Checks.due("none waits", x.event(-1, 0), 0);
            Checks.does(x, 1, 1, 3);
            Checks.sent(x, 8, first == 2 ? 6 : 5);
        }
    }

    private static void notHeldByEarlierKey() {
        Checks.sentence("UP of another KEY (whose DOWN is not among them: it waits)");
        KeyMatrix x = Checks.board(hold(20));
        Checks.down(x, 0, 2, 1);
        Checks.up(x, 0, 2);
        Checks.due("they wait", x.event(-1, 0), 3);
        Checks.sent(x, 0, 4, 5);
        // In its own TICK, but ahead of it by its number: the same.
        x = Checks.board(hold(20));
        x.press(0, true);
        x.press(1, true);
        x.tick(1);
        Checks.up(x, 0);
        Checks.due("they wait", x.event(-1, 0), 2);
        // Behind it by its number: HELD.
        x = Checks.board(hold(20));
        x.press(2, true);
        x.press(1, true);
        x.tick(1);
        Checks.up(x, 2);
        Checks.due("none waits", x.event(-1, 0), 0);
    }

    private static void notHeldByDownAlone() {
        Checks.sentence("the EVENTS behind, one by one (DOWN of others alone: it waits)");
        KeyMatrix x = Checks.board(hold(20));
        Checks.down(x, 1, 0, 2, 3);
        Checks.due("they wait", x.event(-1, 0), 4);
        Checks.due("no REPORT", x.count(3), 0);
        Checks.up(x, 1);
        Checks.report(x, 4, 5, 0, 9);
        Checks.sent(x, 0, 4, 5, 6);
    }

    private static void firstThatFits() {
        Checks.sentence("the EVENTS behind, one by one (UP of k and of another in one TICK: by their numbers)");
        KeyMatrix x = Checks.board(hold(20));
        Checks.down(x, 1, 2);
        x.press(1, false);
        x.press(2, false);
        x.tick(1);
        Checks.report(x, 3, 3, 0, 9);
        x = Checks.board(hold(20));
        Checks.down(x, 1, 0);
        x.press(1, false);
        x.press(0, false);
        x.tick(1);
        Checks.report(x, 3, 3, 8);
    }

    private static String twice(int twice) {
        return "board 1 4;bounce 1;twice " + twice + ";key 0 1 double 3 4;key 0 0 code 7;key 0 2 code 8;key 0 3 code 9;";
    }

    private static void onceByLaterEvent() {
        Checks.sentence("is one at t and TWICE or later: ONCE");
        for (int twice : new int[] {2, 3, 7, 40}) {
            KeyMatrix x = Checks.board(twice(twice));
            x.press(1, true);
            x.tick(1);
            x.press(1, false);
            Checks.due("it waits", x.tick(twice - 1), 0);
            Checks.due("EVENTS", x.event(-1, 0), 2);
            x.press(1, true);
            Checks.due("REPORTS", x.tick(1), 2);
            Checks.report(x, 1, 1 + twice, 0, 3);
            Checks.report(x, 0, 1 + twice, 0);
            Checks.due("a first one again", x.event(-1, 0), 1);
        }
        KeyMatrix x = Checks.board(twice(1));
        Checks.down(x, 1);
        Checks.due("it waits", x.event(-1, 0), 1);
        x.press(1, false);
        Checks.due("UP at t and TWICE", x.tick(1), 2);
    }

    private static void twiceInTime() {
        Checks.sentence("is it DOWN of k: TWICE (at less than t and TWICE)");
        for (int twice : new int[] {3, 7, 40}) {
            KeyMatrix x = Checks.board(twice(twice));
            x.press(1, true);
            x.tick(1);
            x.press(1, false);
            x.tick(twice - 2);
            x.press(1, true);
            Checks.due("REPORTS", x.tick(1), 1);
            Checks.report(x, 0, twice, 0, 4);
            Checks.does(x, 1, 0, 4);
            Checks.does(x, 0, -1, -1);
            Checks.due("EVENTS", x.event(-1, 0), 0);
        }
    }

    private static void onceByNow() {
        Checks.sentence("Is none so: ONCE if NOW is t and TWICE or more, else it waits");
        for (int twice : new int[] {1, 2, 7, 40}) {
            KeyMatrix x = Checks.board(twice(twice));
            x.press(1, true);
            Checks.due("it waits", x.tick(twice), 0);
            Checks.due("EVENTS", x.event(-1, 0), 1);
            Checks.due("ONCE", x.tick(1), 1);
            Checks.report(x, 0, 1 + twice, 0, 3);
            Checks.does(x, 1, 0, 3);
        }
        KeyMatrix x = Checks.board("board 1 1;bounce 1;key 0 0 double 3 4;");
        x.press(0, true);
        Checks.due("not told: 6", x.tick(6), 0);
        Checks.due("ONCE", x.tick(1), 1);
    }

    private static void onceByAnother() {
        Checks.sentence("is it DOWN of another KEY: ONCE");
        KeyMatrix x = Checks.board(twice(9));
        Checks.down(x, 1, 2);
        Checks.sent(x, 0, 3, 8);
        Checks.due("EVENTS", x.event(-1, 0), 0);
        // Between the two DOWNs of k, too.
        x = Checks.board(twice(9));
        Checks.strike(x, 1, 1);
        Checks.down(x, 0);
        Checks.sent(x, 0, 7);
        Checks.report(x, 2, 3, 0, 3);
        // In one TICK with the second DOWN: by their numbers.
        x = Checks.board(twice(9));
        Checks.strike(x, 1, 1);
        x.press(1, true);
        x.press(2, true);
        x.tick(1);
        Checks.sent(x, 0, 4, 8);
        x = Checks.board(twice(9));
        Checks.strike(x, 1, 1);
        x.press(1, true);
        x.press(0, true);
        x.tick(1);
        Checks.sent(x, 0, 7);
        Checks.due("a first one again", x.event(-1, 0), 1);
    }

    private static void notOnceByUps() {
        Checks.sentence("the EVENTS behind, one by one (UP of k, UP of another: it waits)");
        KeyMatrix x = Checks.board(twice(9));
        Checks.down(x, 0, 1);
        Checks.up(x, 0, 1);
        Checks.due("they wait", x.event(-1, 0), 3);
        Checks.sent(x, 0, 7);
    }

    private static void twiceTakesTheFirst() {
        Checks.sentence("of the EVENTS behind the first UP of k and the first DOWN of k go, too");
        for (int other : new int[] {0, 2}) {
            // UP of another ahead of UP of k, then behind it.
            for (boolean ahead : new boolean[] {true, false}) {
                KeyMatrix x = Checks.board(twice(9));
                Checks.down(x, other, 1);
                Checks.up(x, ahead ? other : 1, ahead ? 1 : other);
                Checks.due("they wait", x.event(-1, 0), 3);
                x.press(1, true);
                Checks.due("REPORTS", x.tick(1), 2);
                Checks.report(x, 1, 5, 0, other == 0 ? 7 : 8, 4);
                Checks.report(x, 0, 5, 0, 4);
                Checks.due("EVENTS", x.event(-1, 0), 0);
                Checks.does(x, 1, 0, 4);
                Checks.does(x, other, -1, -1);
                Checks.up(x, 1);
                Checks.sent(x, 0);
            }
        }
    }

    private static void twiceThenAnew() {
        Checks.sentence("TWICE (a third DOWN is a first one again)");
        KeyMatrix x = Checks.board(twice(9));
        Checks.strike(x, 1, 1);
        Checks.strike(x, 1, 1);
        Checks.report(x, 1, 3, 0, 4);
        Checks.report(x, 0, 4, 0);
        Checks.down(x, 1);
        Checks.due("it waits", x.event(-1, 0), 1);
        Checks.due("no REPORT", x.count(3), 2);
        Checks.due("STROKES", x.strokes(1, 0), 3);
    }

    private static void toggledAndNoMore() {
        Checks.sentence("toggle: that LAYER is TOGGLED, or (it was) no more");
        KeyMatrix x = Checks.board("board 1 4;bounce 1;key 0 0 toggle 1;key 0 1 toggle 2;key 0 2 toggle 3;key 0 3 toggle 1;");
        int bits = 0;
        int[] struck = {0, 1, 2, 0, 3, 3, 0, 2, 1, 0};
        int[] layers = {1, 2, 3, 1, 1, 1, 1, 3, 2, 1};
        for (int i = 0; i < struck.length; i++) {
            Checks.down(x, struck[i]);
            bits ^= 1 << layers[i];
            Checks.due("at its DOWN", x.count(5), bits);
            Checks.does(x, struck[i], -1, -1);
            Checks.up(x, struck[i]);
            Checks.due("at its UP", x.count(5), bits);
        }
        Checks.due("no REPORT", x.count(3), 0);
    }

    private static void playsNothing() {
        Checks.sentence("'play' a MACRO (one that is not told plays nothing)");
        KeyMatrix x = Checks.board("board 1 3;bounce 1;macro 5;key 0 0 play 1;key 0 1 play 3;key 0 2 play 0;");
        Checks.due("told last", x.deed(0, 1, 1), 3);
        Checks.down(x, 0, 1);
        Checks.due("no REPORT", x.count(3), 0);
        Checks.due("EVENTS", x.event(-1, 0), 0);
        Checks.down(x, 2);
        Checks.due("REPORTS", x.count(3), 2);
        x = Checks.board("board 1 2;bounce 1;chord 0 1 play 0;");
        Checks.down(x, 0, 1);
        Checks.due("no REPORT of a CHORD", x.count(3), 0);
        Checks.due("EVENTS", x.event(-1, 0), 0);
    }

    private static void playsEight() {
        Checks.sentence("play: its codes one by one: it is sent, it is not");
        KeyMatrix x = Checks.board("board 1 2;bounce 1;macro 9;macro 1 2 3 4 5 6 7 8;macro 9 9;macro 200;"
                + "key 0 0 play 1;key 0 1 play 3;");
        x.press(0, true);
        Checks.due("REPORTS", x.tick(1), 16);
        for (int i = 0; i < 8; i++) {
            Checks.report(x, 15 - 2 * i, 1, 0, i + 1);
            Checks.report(x, 14 - 2 * i, 1, 0);
        }
        x.press(1, true);
        Checks.due("REPORTS of one code", x.tick(1), 2);
        Checks.report(x, 1, 2, 0, 200);
    }

    private static void doesTillUp() {
        Checks.sentence("k DOES, till it is UP: code: that code; mod: that MOD; layer: holds that LAYER");
        KeyMatrix x = Checks.board("board 1 6;bounce 1;term 1;twice 1;key 0 0 code 200;key 0 1 mod 0;key 0 2 layer 3;"
                + "key 0 3 hold 5 mod 7;key 0 4 hold 5 layer 2;key 0 5 double 6 7;");
        int[][] does = {{0, 200}, {1, 0}, {2, 3}, {1, 7}, {2, 2}, {0, 6}};
        for (int key = 0; key < 6; key++) {
            Checks.does(x, key, -1, -1);
            Checks.down(x, key);
            x.tick(50);
            Checks.does(x, key, does[key][0], does[key][1]);
            Checks.up(x, key);
            Checks.does(x, key, -1, -1);
        }
    }

    private static void doesNothing() {
        Checks.sentence("these and nothing: k does nothing more");
        KeyMatrix x = Checks.board("board 1 3;bounce 1;macro 5;key 0 0 nothing;key 0 1 toggle 1;key 0 2 play 0;");
        for (int key = 0; key < 3; key++) {
            int before = x.count(3);
            Checks.down(x, key);
            Checks.does(x, key, -1, -1);
            Checks.sent(x, 0);
            Checks.up(x, key);
            Checks.due("REPORTS of key " + key, x.count(3) - before, key == 2 ? 2 : 0);
            Checks.due("EVENTS", x.event(-1, 0), 0);
        }
    }

    private static void chordOneUp() {
        Checks.sentence("UP of k (with a CHORD: both KEYS of it, when one is UP first; the other's UP does nothing then)");
        for (int first = 0; first < 2; first++) {
            KeyMatrix x = Checks.board(chord(3));
            Checks.down(x, 0, 1);
            x.press(first, false);
            Checks.due("REPORTS of the first UP", x.tick(1), 1);
            Checks.report(x, 0, 3, 0);
            Checks.does(x, 0, -1, -1);
            Checks.does(x, 1, -1, -1);
            Checks.due("done no more", x.chord(0, 2), 0);
            x.press(1 - first, false);
            Checks.due("REPORTS of the other's", x.tick(1), 0);
            Checks.due("EVENTS", x.event(-1, 0), 0);
        }
    }

    private static void chordStruckAgain() {
        Checks.sentence("the other's UP does nothing then (though the first does something again)");
        for (int first = 0; first < 2; first++) {
            KeyMatrix x = Checks.board(chord(1));
            x.press(0, true);
            x.press(1, true);
            x.tick(1);
            Checks.up(x, first);
            x.press(first, true);
            x.tick(2);
            Checks.sent(x, 0, first + 1);
            x.press(1 - first, false);
            Checks.due("REPORTS of the other's UP", x.tick(1), 0);
            Checks.does(x, first, 0, first + 1);
            // Both down again, the one alone still: no chord of a key that is down already.
            x.press(1 - first, true);
            x.tick(2);
            Checks.due("not done", x.chord(0, 2), 0);
            Checks.sent(x, 0, first + 1, 2 - first);
        }
    }

    private static void chordOfMods() {
        Checks.sentence("k and that KEY do the CHORD's DEED together");
        KeyMatrix x = Checks.board("board 1 3;bounce 1;macro 8;key 0 2 mod 7;chord 1 0 mod 7;");
        Checks.down(x, 2, 0, 1);
        Checks.does(x, 0, 1, 7);
        Checks.does(x, 1, 1, 7);
        Checks.due("done", x.chord(0, 2), 1);
        Checks.due("a MOD that is sent anyway", x.count(3), 1);
        Checks.up(x, 2);
        Checks.sent(x, 128);
        Checks.up(x, 0);
        Checks.sent(x, 0);
        x = Checks.board("board 1 2;bounce 1;macro 8 9;chord 0 1 play 0;");
        x.press(0, true);
        x.press(1, true);
        Checks.due("a MACRO once, not twice", x.tick(1), 4);
        Checks.does(x, 0, -1, -1);
        Checks.does(x, 1, -1, -1);
    }
}
