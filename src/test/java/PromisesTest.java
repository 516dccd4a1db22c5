import java.io.IOException;

/** Each promise in the document's own words: an ordinary use, its edges and wrong inputs. */
public final class PromisesTest {
    /** Squares in 0 and 7; place 0 is wished dark at hour 0, place 6 light at 3 and 4; place 4 is owed four hours. */
    private static final String TEXT = "NH00H07W00013dW06322lO044";
    private static final int HANGING = 1 + 128;
    /** Dark for cell 0 (3), light for it (2), dark for cell 1 (1). */
    private static final String AGAINST = "NW00013dW00012lW01011d";

    public static void main(String[] args) throws IOException {
        Sentences.run(PromisesTest.class);
    }

    private static void lessAndMore(Due due, String call, int least, int most, int refusal, Asked asked) {
        int[] wrong = {least - 1, most + 1, Integer.MIN_VALUE, Integer.MAX_VALUE};
        for (int number : wrong) {
            due.same(call + " of " + number, asked.with(number), refusal);
        }
    }

    private interface Asked {
        long with(int number);
    }

    // ---- the letting

    @Sentence("No squares, no wishes.")
    static void promise1(Due due) {
        NightNet net = new NightNet();
        for (int what = 0; what < 9; what++) {
            due.same("count(" + what + ")", net.count(what), 0);
        }
        due.same("a wish", net.wish(0, 0), -1);
        due.same("a square", net.take(0), -3);
    }

    @Sentence("A letter (0 to 255) comes behind THE TEXT: how long it is. OUTSIDE; FULL: there are 72.")
    static void promise2(Due due) {
        NightNet net = new NightNet();
        due.same("write('N')", net.write('N'), 1);
        due.same("write('H')", net.write('H'), 2);
        due.same("what came stands behind", net.fault(), 2);
        due.same("write(0)", net.write(0), 3);
        due.same("write(255)", net.write(255), 4);
        lessAndMore(due, "write", 0, 255, -2, net::write);
        for (int length = 5; length <= 72; length++) {
            due.same("write", net.write('7'), length);
        }
        due.same("write when full", net.write('7'), -4);
        lessAndMore(due, "write when full", 0, 255, -2, net::write);
        due.same("letters", net.count(0), 72);
    }

    @Sentence("THE TEXT is empty: how long it was.")
    static void promise3(Due due) {
        NightNet net = Due.let(TEXT);
        due.same("wipe()", net.wipe(), TEXT.length());
        due.same("letters", net.count(0), 0);
        due.same("fault()", net.fault(), 0);
        due.same("wipe() of no text", net.wipe(), 0);
        due.same("the letting stays", net.count(5), HANGING);
    }

    @Sentence("FAULT; NONE.")
    static void promise4(Due due) {
        due.same("of a letting", Due.written(TEXT).fault(), -9);
        due.same("of N alone", Due.written("N").fault(), -9);
        due.same("of what is no part", Due.written("NH00?").fault(), 4);
        due.same("of a cell that is not", Due.written("NH12").fault(), 3);
        due.same("of what is not at its end", Due.written("NH0").fault(), 3);
        due.same("of no text", new NightNet().fault(), 0);
    }

    @Sentence("THE TEXT (that stays as it is) is THE LETTING (HOUR 0, THE ROW of ACTS is empty, what was kept is gone; "
        + "what is TOLD, THE SEED stay): how many WISHES. STATE: a FAULT.")
    static void promise5(Due due) {
        NightNet net = Due.let("NH05");
        net.hour();
        net.keep(0);
        net.tell(3, 0, true);
        net.seed(9);
        due.same("letting()", Due.rewrite(net, TEXT), 2);
        due.same("letters", net.count(0), TEXT.length());
        due.same("hanging", net.count(5), HANGING);
        due.same("hour", net.count(4), 0);
        due.same("acts", net.count(6), 0);
        due.same("what was kept", net.again(0), -3);
        due.same("told", net.fits(1, 1), 8);
        due.same("the seed", net.seed(9), 9);
        net.write('?');
        due.same("letting() of a fault", net.letting(), -3);
        due.same("letting() of no text", new NightNet().letting(), -3);
        due.same("wishes stay", net.count(1), 2);
    }

    @Sentence("Of a WISH its PLACE (what = 0), HOUR (1), for how many (2), WORTH (3), 1 for DARK, 0 for light (4), "
        + "1 if it is GRANTED as it is (5), its HOURS as bits (6). UNKNOWN; OUTSIDE.")
    static void promise6(Due due) {
        NightNet net = Due.let(TEXT);
        int[][] want = {{0, 0, 1, 3, 1, 1, 1}, {6, 3, 2, 2, 0, 1, 8 + 16}};
        for (int wish = 0; wish < 2; wish++) {
            for (int what = 0; what < 7; what++) {
                due.same("wish(" + wish + ", " + what + ")", net.wish(wish, what), want[wish][what]);
            }
        }
        net.take(0);
        net.hang(8);
        due.same("dark is not granted", net.wish(0, 5), 0);
        due.same("light is not granted", net.wish(1, 5), 0);
        lessAndMore(due, "wish", 0, 1, -1, number -> net.wish(number, 9));
        lessAndMore(due, "wish 0, what", 0, 6, -2, number -> net.wish(0, number));
    }

    @Sentence("Of a PLACE whether it is DARK now (what = 0: 1, 0), HOURS at which it is DARK (1: bits), "
        + "how many HOURS of light it is OWED (2; 0: none), the CELL above it now (3). UNKNOWN; OUTSIDE.")
    static void promise7(Due due) {
        NightNet net = Due.let(TEXT);
        due.same("place 0, dark now", net.place(0, 0), 1);
        due.same("place 1, dark now", net.place(1, 0), 0);
        due.same("place 2, hours", net.place(2, 1), 4);
        due.same("place 6, hours", net.place(6, 1), 32);
        due.same("place 4, owed", net.place(4, 2), 4);
        due.same("place 5, owed", net.place(5, 2), 0);
        due.same("place 9, cell", net.place(9, 3), 9);
        net.hour();
        due.same("place 0, dark an hour later", net.place(0, 0), 0);
        due.same("place 1, dark an hour later", net.place(1, 0), 1);
        due.same("place 2, hours stay", net.place(2, 1), 4);
        due.same("place 0, cell an hour later", net.place(0, 3), 5);
        due.same("place 9, cell an hour later", net.place(9, 3), 8);
        lessAndMore(due, "place", 0, 11, -1, number -> net.place(number, 9));
        lessAndMore(due, "place 0, what", 0, 3, -2, number -> net.place(0, number));
    }

    @Sentence("Whether a PLACE is DARK at an HOUR: 1, 0. UNKNOWN; OUTSIDE.")
    static void promise8(Due due) {
        NightNet net = Due.let(TEXT);
        net.hour();
        due.same("dark(0, 0)", net.dark(0, 0), 1);
        due.same("dark(3, 3)", net.dark(3, 3), 1);
        due.same("dark(3, 2)", net.dark(3, 2), 0);
        due.same("dark(8, 1)", net.dark(8, 1), 1);
        due.same("dark(6, 5)", net.dark(6, 5), 1);
        due.same("dark(11, 5)", net.dark(11, 5), 0);
        lessAndMore(due, "dark", 0, 11, -1, number -> net.dark(number, 9));
        lessAndMore(due, "dark at", 0, 5, -2, number -> net.dark(0, number));
    }

    @Sentence("READ. UNKNOWN.")
    static void promise9(Due due) {
        NightNet net = Due.let(TEXT);
        due.same("read(0)", net.read(0), 32);
        due.same("read(3): 3, 4, 5, 0, ..", net.read(3), 4);
        due.same("read(6)", net.read(6), 16);
        net.hour();
        due.same("read(0) an hour later: 5, 0, ..", net.read(0), 16);
        due.same("read(9) an hour later: 8, 9, 10, 11, 6, 7", net.read(9), 1);
        lessAndMore(due, "read", 0, 11, -1, net::read);
    }

    // ---- acts

    @Sentence("HUNG: how many hang. UNKNOWN; STATE: one hangs there; FULL: 5.")
    static void promise10(Due due) {
        NightNet net = Due.let(TEXT);
        due.same("hang(3)", net.hang(3), 3);
        due.same("hanging", net.count(5), HANGING + 8);
        due.same("hang(3) again", net.hang(3), -3);
        due.same("hang(11)", net.hang(11), 4);
        due.same("hang(5)", net.hang(5), 5);
        due.same("hang(6)", net.hang(6), -4);
        due.same("hang(0), when full, too", net.hang(0), -3);
        lessAndMore(due, "hang", 0, 11, -1, net::hang);
        due.same("acts", net.count(6), 3);
    }

    @Sentence("TAKEN: how many hang. UNKNOWN; STATE: none hangs there.")
    static void promise11(Due due) {
        NightNet net = Due.let(TEXT);
        due.same("take(7)", net.take(7), 1);
        due.same("hanging", net.count(5), 1);
        due.same("take(7) again", net.take(7), -3);
        due.same("take(0)", net.take(0), 0);
        due.same("take(0) again", net.take(0), -3);
        lessAndMore(due, "take", 0, 11, -1, net::take);
        due.same("acts", net.count(6), 2);
    }

    @Sentence("MOVED: the CELL then. UNKNOWN; OUTSIDE: by (-1, 0, 1); STATE: none hangs there, or one does where it "
        + "would come.")
    static void promise12(Due due) {
        NightNet net = Due.let(TEXT);
        due.same("move(0, 1)", net.move(0, 1), 1);
        due.same("move(1, 0), onto 7", net.move(1, 0), -3);
        due.same("move(7, -1)", net.move(7, -1), 6);
        due.same("move(6, -1)", net.move(6, -1), 11);
        due.same("move(11, 0)", net.move(11, 0), 5);
        due.same("move(5, 1)", net.move(5, 1), 0);
        due.same("hanging", net.count(5), 3);
        due.same("move(0, 1), onto 1", net.move(0, 1), -3);
        due.same("move(4, 1), none there", net.move(4, 1), -3);
        lessAndMore(due, "move", 0, 11, -1, number -> net.move(number, 9));
        lessAndMore(due, "move 0 by", -1, 1, -2, number -> net.move(0, number));
        lessAndMore(due, "move 4 by", -1, 1, -2, number -> net.move(4, number));
        due.same("acts", net.count(6), 5);
    }

    @Sentence("AN HOUR goes by: THE HOUR.")
    static void promise13(Due due) {
        NightNet net = Due.let(TEXT);
        for (int call = 1; call <= 7; call++) {
            due.same("hour()", net.hour(), call % 6);
            due.same("acts", net.count(6), call);
        }
        due.same("place 1 is dark", net.place(1, 0), 1);
    }

    @Sentence("The last ACT is undone: how many are left. STATE: there is none.")
    static void promise14(Due due) {
        NightNet net = Due.let(TEXT);
        due.same("undo() of no acts", net.undo(), -3);
        net.hang(3);
        net.take(0);
        net.move(7, 1);
        net.hour();
        int[] hangings = {8 + 256, 8 + 128, 1 + 8 + 128, HANGING};
        for (int undone = 0; undone < 4; undone++) {
            due.same("undo()", net.undo(), 3 - undone);
            due.same("hour", net.count(4), 0);
            due.same("hanging", net.count(5), hangings[undone]);
        }
        due.same("undo() of all", net.undo(), -3);
    }

    @Sentence("Of n MOVES (1 to 2) from now on, told as 3 n figures (two for the CELL, one for how: 0 by 1, 1 by -1, "
        + "2 by 0; 0s ahead, where there are fewer), the first one first: the place (from 0) of the first that can not be "
        + "(there is no such figure, too); NONE: all can. OUTSIDE: n, row (0 or more, 3 n figures at most).")
    static void promise15(Due due) {
        NightNet net = Due.let(TEXT);
        due.same("000", net.judge(1, 0), -9);
        due.same("001", net.judge(1, 1), -9);
        due.same("072", net.judge(1, 72), -9);
        due.same("000 012, onto 7", net.judge(2, 12), 1);
        due.same("072 001", net.judge(2, 72001), -9);
        due.same("072 000, onto what has come", net.judge(2, 72000), 1);
        due.same("001 051, where it has come", net.judge(2, 1051), -9);
        due.same("051 001, where it has not come", net.judge(2, 51001), 0);
        due.same("030, none there", net.judge(1, 30), 0);
        due.same("003, no such way", net.judge(1, 3), 0);
        due.same("001 120, no such cell", net.judge(2, 1120), 1);
        due.same("999999", net.judge(2, 999999), 0);
        lessAndMore(due, "judge n", 1, 2, -2, number -> net.judge(number, 0));
        lessAndMore(due, "judge row of one", 0, 999, -2, number -> net.judge(1, number));
        lessAndMore(due, "judge row of two", 0, 999999, -2, number -> net.judge(2, number));
        due.same("nothing is moved", net.count(5), HANGING);
    }

    // ---- worths

    @Sentence("WORTH of a HANGING. OUTSIDE: hanging.")
    static void promise16(Due due) {
        NightNet net = Due.let(TEXT);
        due.same("of both wishes", net.worth(1), 5);
        due.same("of none hung", net.worth(0), 2);
        due.same("of dark alone", net.worth(1 + 256), 3);
        due.same("of neither", net.worth(512), 0);
        due.same("of five", net.worth(31), 5);
        due.same("of six", net.worth(63), -2);
        lessAndMore(due, "worth", 0, 4095, -2, net::worth);
    }

    @Sentence("Whether a HANGING is LAWFUL: 1, 0. OUTSIDE.")
    static void promise17(Due due) {
        NightNet net = Due.let(TEXT);
        due.same("two in row 0", net.lawful(3), 1);
        due.same("three in row 0", net.lawful(7), 0);
        due.same("two and three", net.lawful(3 + (7 << 6)), 1);
        due.same("five in row 1", net.lawful(31 << 6), 1);
        due.same("six in row 1", net.lawful(63 << 6), -2);
        lessAndMore(due, "lawful", 0, 4095, -2, net::lawful);
    }

    @Sentence("BEST: its WORTH (what = 0), CELLS as bits (1), WISHES that it GRANTS as bits (2); NONE. OUTSIDE: n, what.")
    static void promise18(Due due) {
        NightNet net = Due.let(TEXT);
        int[][] want = {{2, 0, 2}, {5, 1, 3}, {5, 1, 3}, {5, 1, 3}, {5, 1, 3}, {5, 1, 3}};
        for (int n = 0; n < 6; n++) {
            for (int what = 0; what < 3; what++) {
                due.same("best(" + n + ", " + what + ")", net.best(n, what), want[n][what]);
            }
        }
        lessAndMore(due, "best for", 0, 5, -2, number -> net.best(number, 0));
        lessAndMore(due, "best for 0, what", 0, 2, -2, number -> net.best(0, number));
        due.same("nothing is hung", net.count(5), HANGING);
    }

    @Sentence("How many LAWFUL HANGINGS of just n SQUARES there are. OUTSIDE.")
    static void promise19(Due due) {
        NightNet net = Due.let(TEXT);
        int[] want = {1, 12, 66, 200, 15 + 6 * 20 + 15 * 15, 6 + 6 * 15 + 15 * 20};
        for (int n = 0; n < 6; n++) {
            due.same("many(" + n + ")", net.many(n), want[n]);
        }
        lessAndMore(due, "many", 0, 5, -2, net::many);
    }

    @Sentence("WISHES that one BARS, as bits. UNKNOWN; OUTSIDE: n.")
    static void promise20(Due due) {
        NightNet net = Due.let(AGAINST);
        int[][] want = {{0, 0, 0}, {2 + 4, 1, 1}, {2, 1, 0}};
        for (int n = 0; n < 3; n++) {
            for (int wish = 0; wish < 3; wish++) {
                due.same("bars(" + wish + ", " + n + ")", net.bars(wish, n), want[n][wish]);
            }
        }
        lessAndMore(due, "bars", 0, 2, -1, number -> net.bars(number, 9));
        lessAndMore(due, "bars 0 for", 0, 5, -2, number -> net.bars(0, number));
    }

    @Sentence("THE LOSS. UNKNOWN; STATE: no SQUARE hangs there.")
    static void promise21(Due due) {
        NightNet net = Due.let(TEXT);
        due.same("loss(0)", net.loss(0), 1003);
        due.same("loss(7)", net.loss(7), 1000);
        due.same("loss(9), none there", net.loss(9), -3);
        net.hang(9);
        due.same("loss(9)", net.loss(9), 998);
        lessAndMore(due, "loss", 0, 11, -1, net::loss);
        due.same("nothing is taken down", net.count(5), HANGING + 512);
    }

    @Sentence("FLOW. OUTSIDE: hanging; STATE: it has not as many SQUARES as hang.")
    static void promise22(Due due) {
        NightNet net = Due.let(TEXT);
        due.same("to the same", net.flow(HANGING), 0);
        due.same("to 0, 6", net.flow(1 + 64), 1);
        due.same("to 1, 6", net.flow(2 + 64), 2);
        due.same("to 3, 9", net.flow(8 + 512), 5);
        due.same("to one", net.flow(1), -3);
        due.same("to three", net.flow(7), -3);
        due.same("to six", net.flow(63), -2);
        lessAndMore(due, "flow", 0, 4095, -2, net::flow);
        due.same("nothing is moved", net.count(5), HANGING);
    }

    // ---- prices

    @Sentence("DUE; NONE. UNKNOWN; OUTSIDE: n.")
    static void promise23(Due due) {
        NightNet net = Due.let(AGAINST);
        int[][] want = {{0, 0, 0}, {3, 0, 0}, {2, 0, 0}};
        for (int n = 0; n < 3; n++) {
            for (int wish = 0; wish < 3; wish++) {
                due.same("due(" + wish + ", " + n + ")", net.due(wish, n), want[n][wish]);
            }
        }
        lessAndMore(due, "due", 0, 2, -1, number -> net.due(number, 9));
        lessAndMore(due, "due of 0 for", 0, 5, -2, number -> net.due(0, number));
    }

    @Sentence("SHARE. UNKNOWN; OUTSIDE: n.")
    static void promise24(Due due) {
        NightNet net = Due.let(AGAINST);
        int[][] above = {{0, 2, 0}, {3, 1, 1}, {2, 1, 1}};
        int[][] below = {{1, 1, 1}, {2, 1, 2}, {1, 1, 1}};
        for (int n = 0; n < 3; n++) {
            for (int wish = 0; wish < 3; wish++) {
                due.same("share(" + wish + ", " + n + ", true)", net.share(wish, n, true), above[n][wish]);
                due.same("share(" + wish + ", " + n + ", false)", net.share(wish, n, false), below[n][wish]);
            }
        }
        for (boolean upper : new boolean[] {true, false}) {
            lessAndMore(due, "share", 0, 2, -1, number -> net.share(number, 9, upper));
            lessAndMore(due, "share of 0 for", 0, 5, -2, number -> net.share(0, number, upper));
        }
    }

    // ---- told, winds

    @Sentence("TOLD: how many there are. UNKNOWN; OUTSIDE: hour; FULL: 6.")
    static void promise25(Due due) {
        NightNet net = Due.let(TEXT);
        due.same("tell(0, 0, true)", net.tell(0, 0, true), 1);
        due.same("tell(3, 1, false)", net.tell(3, 1, false), 2);
        due.same("dark in 0", net.fits(1, 1), 1);
        due.same("light in 2", net.fits(4, 2), 4);
        for (int told = 3; told <= 6; told++) {
            due.same("tell(11, 5, false)", net.tell(11, 5, false), told);
        }
        due.same("tell when full", net.tell(0, 0, true), -4);
        lessAndMore(due, "tell", 0, 11, -1, number -> net.tell(number, 9, true));
        lessAndMore(due, "tell at", 0, 5, -2, number -> net.tell(0, number, true));
    }

    @Sentence("Nothing is TOLD: how many there were.")
    static void promise26(Due due) {
        NightNet net = Due.let(TEXT);
        due.same("untell() of nothing", net.untell(), 0);
        net.tell(0, 0, true);
        net.tell(3, 1, false);
        due.same("untell()", net.untell(), 2);
        due.same("told", net.count(7), 0);
        due.same("all fit", net.fits(1, 0), 12);
        due.same("untell() again", net.untell(), 0);
    }

    @Sentence("FITS: how many (what = 0); CELLS in which one hangs in all (1), in none (2), as bits; NONE (of 1, 2): "
        + "there is none. OUTSIDE: n, what.")
    static void promise27(Due due) {
        NightNet net = Due.let(TEXT);
        net.tell(0, 0, true);
        net.tell(3, 1, false);
        int[][] want = {{0, -9, -9}, {1, 1, 4094}, {10, 1, 4}, {45, 1, 4}, {120, 1, 4}, {210, 1, 4}};
        for (int n = 0; n < 6; n++) {
            for (int what = 0; what < 3; what++) {
                due.same("fits(" + n + ", " + what + ")", net.fits(n, what), want[n][what]);
            }
        }
        lessAndMore(due, "fits of", 0, 5, -2, number -> net.fits(number, 0));
        lessAndMore(due, "fits of 0, what", 0, 2, -2, number -> net.fits(0, number));
    }

    @Sentence("WIND. OUTSIDE.")
    static void promise28(Due due) {
        NightNet net = Due.let(TEXT);
        int[] above = {5, 47, 22, 41, 19, 7, 16, 29, 13, 23, 2};
        int[] below = {1, 10, 5, 10, 5, 2, 5, 10, 5, 10, 1};
        for (int x = 0; x <= 10; x++) {
            due.same("wind(" + x + ", true)", net.wind(x, true), above[x]);
            due.same("wind(" + x + ", false)", net.wind(x, false), below[x]);
        }
        lessAndMore(due, "wind above", 0, 10, -2, number -> net.wind(number, true));
        lessAndMore(due, "wind below", 0, 10, -2, number -> net.wind(number, false));
        due.same("nothing is gone", net.count(5), HANGING);
    }

    @Sentence("THE SEED is v: what it was.")
    static void promise29(Due due) {
        NightNet net = Due.let(TEXT);
        due.same("seed(7)", net.seed(7), 0);
        due.same("seed(least)", net.seed(Long.MIN_VALUE), 7);
        due.same("seed(most)", net.seed(Long.MAX_VALUE), Long.MIN_VALUE);
        due.same("seed(0)", net.seed(0), Long.MAX_VALUE);
    }

    @Sentence("A STORM. OUTSIDE: m.")
    static void promise30(Due due) {
        NightNet net = Due.let(TEXT);
        net.seed(1);
        due.same("storm(8): 0 by -1", net.storm(8), 32 + 128);
        due.same("seed(3)", net.seed(3), 1206773305466921929L);
        due.same("storm(1): cell 11 has none", net.storm(1), HANGING);
        due.same("storm(1): 7 by -1", net.storm(1), 1 + 64);
        lessAndMore(due, "storm", 1, 40, -2, net::storm);
        due.same("nothing is moved", net.count(5), HANGING);
    }

    // ---- slots

    @Sentence("They are kept: how many SQUARES hang. UNKNOWN.")
    static void promise31(Due due) {
        NightNet net = Due.let(TEXT);
        due.same("keep(0)", net.keep(0), 2);
        net.take(0);
        due.same("keep(1)", net.keep(1), 1);
        lessAndMore(due, "keep", 0, 1, -1, net::keep);
        net.take(7);
        due.same("again(0)", net.again(0), 2);
        due.same("again(1)", net.again(1), 1);
        due.same("hanging", net.count(5), 128);
    }

    @Sentence("They are as they were kept: how many SQUARES hang. UNKNOWN; STATE: none were kept.")
    static void promise32(Due due) {
        NightNet net = Due.let(TEXT);
        due.same("again(0), none kept", net.again(0), -3);
        net.hour();
        net.keep(0);
        net.hour();
        net.take(0);
        due.same("again(0)", net.again(0), 2);
        due.same("hanging", net.count(5), HANGING);
        due.same("hour", net.count(4), 1);
        due.same("acts", net.count(6), 0);
        due.same("again(1), none kept", net.again(1), -3);
        lessAndMore(due, "again", 0, 1, -1, net::again);
    }

    @Sentence("0 letters of THE TEXT, 1 WISHES, 2 PLACES that are OWED light, 3 SQUARES that hang, 4 THE HOUR, "
        + "5 THE HANGING (bits), 6 ACTS in the row, 7 TOLD, 8 WISHES that are GRANTED as it is (bits). OUTSIDE.")
    static void promise33(Due due) {
        NightNet net = Due.let(TEXT);
        net.hang(8);
        net.hour();
        net.hour();
        net.tell(0, 0, true);
        net.tell(1, 0, true);
        net.write('X');
        int[] want = {TEXT.length() + 1, 2, 1, 3, 2, HANGING + 256, 3, 2, 1};
        for (int what = 0; what < 9; what++) {
            due.same("count(" + what + ")", net.count(what), want[what]);
        }
        lessAndMore(due, "count", 0, 8, -2, net::count);
    }
}
