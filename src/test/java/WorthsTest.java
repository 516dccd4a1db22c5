/** Promises 16 to 22: worth, lawful, best, many, bars, loss and flow. */
public final class WorthsTest {
    private static final Due DUE = new Due("WorthsTest");
    /** Dark for cell 0 (3), light for cell 1 (5), dark for cells 6 and 11 (2); three squares at most in row 1. */
    private static final String THREE = "NW00013dW01015lW06022dO073";
    /** Dark for cell 0 (3), light for it (2), dark for cell 1 (1). */
    private static final String AGAINST = "NW00013dW00012lW01011d";

    public static void main(String[] args) {
        worth();
        lawful();
        best();
        bestOfLikeOnes();
        many();
        bars();
        loss();
        flow();
        DUE.close();
    }

    private static void worth() {
        NightNet net = Due.let(THREE);
        DUE.same("worth of none", net.worth(0), 5);
        DUE.same("worth of 0", net.worth(1), 8);
        DUE.same("worth of 1", net.worth(2), 0);
        DUE.same("worth of 0, 1", net.worth(3), 3);
        DUE.same("worth of 6", net.worth(64), 5);
        DUE.same("worth of 6, 11", net.worth(64 + 2048), 7);
        DUE.same("worth of 0, 6, 11", net.worth(1 + 64 + 2048), 10);
        DUE.same("worth of one that is not lawful", net.worth(64 + 128 + 256 + 2048), 7);
        net.hang(1);
        net.hour();
        DUE.same("worth does not mind what hangs", net.worth(1), 8);
        DUE.same("worth of 7 .. 11", net.worth(31 << 7), 5);
        refusesHangings(true);
    }

    private static void refusesHangings(boolean worth) {
        NightNet net = Due.let(THREE);
        int[] outside = {-1, 4096, 63, 4095, 63 << 6, 4096 + 1, Integer.MIN_VALUE, Integer.MAX_VALUE};
        for (int hanging : outside) {
            DUE.same("hanging " + hanging, worth ? net.worth(hanging) : net.lawful(hanging), -2);
        }
    }

    private static void lawful() {
        NightNet net = Due.let(THREE);
        DUE.same("lawful: none", net.lawful(0), 1);
        DUE.same("lawful: three in row 1", net.lawful(7 << 6), 1);
        DUE.same("lawful: four in row 1", net.lawful(15 << 6), 0);
        DUE.same("lawful: five in row 0", net.lawful(31), 1);
        DUE.same("lawful: two and three", net.lawful(3 + (7 << 6)), 1);
        DUE.same("lawful: one and four", net.lawful(1 + (15 << 8)), 0);
        refusesHangings(false);
        for (String text : new String[] {"NO002O015", "NO015O002"}) {
            NightNet strict = Due.let(text);
            DUE.same("the most that is owed counts: one", strict.lawful(8), 1);
            DUE.same("the most that is owed counts: two", strict.lawful(9), 0);
            DUE.same("the other row", strict.lawful(31 << 6), 1);
        }
        NightNet all = Due.let("NO056O111");
        DUE.same("six owed: none", all.lawful(0), 1);
        DUE.same("six owed: one", all.lawful(16), 0);
        DUE.same("one owed: five", all.lawful(31 << 7), 1);
    }

    private static void best(NightNet net, int n, int worth, int cells, int wishes) {
        DUE.same("best(" + n + ", 0)", net.best(n, 0), worth);
        DUE.same("best(" + n + ", 1)", net.best(n, 1), cells);
        DUE.same("best(" + n + ", 2)", net.best(n, 2), wishes);
    }

    private static void best() {
        NightNet net = Due.let(THREE);
        best(net, 0, 5, 0, 2);
        best(net, 1, 8, 1, 3);
        best(net, 2, 8, 1, 3);
        best(net, 3, 10, 1 + 64 + 2048, 7);
        best(net, 4, 10, 1 + 64 + 2048, 7);
        best(net, 5, 10, 1 + 64 + 2048, 7);
        NightNet barred = Due.let("NW00013dO056");
        best(barred, 5, 0, 0, 0);
        DUE.same("best(-1, 0)", net.best(-1, 0), -2);
        DUE.same("best(6, 0)", net.best(6, 0), -2);
        DUE.same("best(0, -1)", net.best(0, -1), -2);
        DUE.same("best(0, 3)", net.best(0, 3), -2);
        DUE.same("wishes of another letting", Due.rewrite(net, "NW03019d"), 1);
        best(net, 0, 0, 0, 0);
        best(net, 2, 9, 8, 1);
        net.hang(0);
        best(net, 1, 9, 8, 1);
    }

    private static void bestOfLikeOnes() {
        NightNet bits = Due.let("NW06012dW00012d");
        best(bits, 1, 2, 1, 2);
        best(bits, 2, 4, 65, 3);
        NightNet squares = Due.let("NW06014dW01024d");
        best(squares, 1, 4, 64, 1);
        best(squares, 2, 4, 64, 1);
        best(squares, 3, 8, 64 + 3, 3);
        best(Due.let("N"), 5, 0, 0, 0);
    }

    private static void many() {
        int[] free = {1, 12, 66, 220, 495, 792};
        int[] threeInRow1 = {1, 12, 66, 220, 495 - 15, 792 - 15 * 6 - 6};
        int[] noneInRow0 = {1, 6, 15, 20, 15, 6};
        for (int n = 0; n < 6; n++) {
            DUE.same("many(" + n + ")", Due.let("N").many(n), free[n]);
            DUE.same("many(" + n + "), three in row 1", Due.let(THREE).many(n), threeInRow1[n]);
            DUE.same("many(" + n + "), none in row 0", Due.let("NO056").many(n), noneInRow0[n]);
        }
        DUE.same("many(-1)", Due.let("N").many(-1), -2);
        DUE.same("many(6)", Due.let("N").many(6), -2);
    }

    private static void bars() {
        NightNet net = Due.let(AGAINST);
        int[][] want = {{0, 0, 0}, {6, 1, 1}, {2, 1, 0}, {2, 1, 0}, {2, 1, 0}, {2, 1, 0}};
        for (int n = 0; n < 6; n++) {
            for (int wish = 0; wish < 3; wish++) {
                DUE.same("bars(" + wish + ", " + n + ")", net.bars(wish, n), want[n][wish]);
            }
        }
        NightNet owed = Due.let("NW00013dW01013dO005");
        DUE.same("bars by what is owed", owed.bars(0, 5), 2);
        DUE.same("and the other way", owed.bars(1, 5), 1);
        NightNet never = Due.let("NW00065dW00065lW00011l");
        DUE.same("one that none grants bars none", never.bars(0, 5), 0);
        DUE.same("nor is it barred", never.bars(1, 5), 0);
        DUE.same("bars(3, 0)", net.bars(3, 0), -1);
        DUE.same("bars(-1, 6)", net.bars(-1, 6), -1);
        DUE.same("bars(0, -1)", net.bars(0, -1), -2);
        DUE.same("bars(0, 6)", net.bars(0, 6), -2);
    }

    private static void loss() {
        for (String owed : new String[] {"", "O006"}) {
            NightNet net = Due.let("NH00H01H07W00013dW01015l" + owed);
            DUE.same("loss of what a wish needs", net.loss(0), 1003);
            DUE.same("loss of what a wish hates", net.loss(1), 995);
            DUE.same("loss of what none minds", net.loss(7), 1000);
            DUE.same("loss where none hangs", net.loss(2), -3);
            DUE.same("loss(12)", net.loss(12), -1);
            DUE.same("loss(-1)", net.loss(-1), -1);
            DUE.same("hanging as it was", net.count(5), 1 + 2 + 128);
        }
    }

    private static void flow() {
        NightNet one = Due.let("NH00");
        int[] moves = {0, 1, 2, 3, 2, 1, 1, 2, 3, 4, 3, 2};
        for (int cell = 0; cell < 12; cell++) {
            DUE.same("flow from 0 to " + cell, one.flow(1 << cell), moves[cell]);
        }
        DUE.same("flow to none", one.flow(0), -3);
        DUE.same("flow to two", one.flow(3), -3);
        DUE.same("flow to six", one.flow(63), -2);
        DUE.same("flow(-1)", one.flow(-1), -2);
        DUE.same("flow(4096)", one.flow(4096), -2);
        DUE.same("flow of none", Due.let("N").flow(0), 0);
        NightNet two = Due.let("NH00H02");
        DUE.same("flow to 1, 5: not the nearest one first", two.flow(2 + 32), 2);
        DUE.same("flow to 0, 2", two.flow(5), 0);
        NightNet five = Due.let("NH00H01H02H03H04");
        DUE.same("flow to 1 .. 5", five.flow(62), 1);
        DUE.same("flow to 6 .. 10", five.flow(31 << 6), 5);
        DUE.same("flow to 8 .. 11, 0", five.flow(1 + (15 << 8)), 6);
        five.move(4, 1);
        DUE.same("flow from as it is", five.flow(31), 1);
    }
}
