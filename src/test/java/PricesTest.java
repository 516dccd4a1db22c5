/** Promises 23 and 24: due and share. */
public final class PricesTest {
    private static final Due DUE = new Due("PricesTest");
    /** Dark for cell 0 (3), light for it (2), dark for cell 1 (1). */
    private static final String AGAINST = "NW00013dW00012lW01011d";

    public static void main(String[] args) {
        due();
        share();
        DUE.close();
    }

    private static void due() {
        NightNet net = Due.let(AGAINST);
        int[][] want = {{0, 0, 0}, {3, 0, 0}, {2, 0, 0}, {2, 0, 0}, {2, 0, 0}, {2, 0, 0}};
        for (int n = 0; n < 6; n++) {
            for (int wish = 0; wish < 3; wish++) {
                DUE.same("due(" + wish + ", " + n + ")", net.due(wish, n), want[n][wish]);
            }
        }
        NightNet owed = Due.let("NW00015dW01013dW06011dO005");
        DUE.same("due by what is owed", owed.due(0, 5), 3);
        DUE.same("due of one that takes nothing", owed.due(2, 5), 0);
        DUE.same("due by how many there are", owed.due(0, 1), 3);
        DUE.same("due of one that is not granted", owed.due(1, 5), 0);
        DUE.same("due(3, 0)", net.due(3, 0), -1);
        DUE.same("due(-1, 6)", net.due(-1, 6), -1);
        DUE.same("due(0, -1)", net.due(0, -1), -2);
        DUE.same("due(0, 6)", net.due(0, 6), -2);
        DUE.same("due with no wishes", Due.let("N").due(0, 0), -1);
    }

    private static void share(NightNet net, int wish, int n, int above, int below) {
        DUE.same("share(" + wish + ", " + n + ", true)", net.share(wish, n, true), above);
        DUE.same("share(" + wish + ", " + n + ", false)", net.share(wish, n, false), below);
    }

    private static void share() {
        NightNet net = Due.let(AGAINST);
        share(net, 0, 0, 0, 1);
        share(net, 1, 0, 2, 1);
        share(net, 2, 0, 0, 1);
        share(net, 0, 1, 3, 2);
        share(net, 1, 1, 1, 1);
        share(net, 2, 1, 1, 2);
        share(net, 0, 5, 2, 1);
        share(net, 1, 5, 1, 1);
        share(net, 2, 5, 1, 1);
        NightNet one = Due.let("NW00017d");
        share(one, 0, 0, 0, 1);
        share(one, 0, 1, 7, 1);
        // Of five dark cells of like worth with one square: each is due a fifth of it.
        NightNet five = Due.let("NW00013dW01013dW02013dW03013dW04013d");
        for (int wish = 0; wish < 5; wish++) {
            share(five, wish, 1, 3, 5);
            share(five, wish, 2, 6, 5);
            share(five, wish, 5, 3, 1);
        }
        DUE.same("share(3, 0, true)", net.share(3, 0, true), -1);
        DUE.same("share(-1, 6, false)", net.share(-1, 6, false), -1);
        DUE.same("share(0, -1, true)", net.share(0, -1, true), -2);
        DUE.same("share(0, 6, false)", net.share(0, 6, false), -2);
    }
}
