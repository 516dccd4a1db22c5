import java.io.IOException;

/** The edges that the document names in promises 23 and 24 and in the terms that they use. */
public final class PricesEdgesTest {
    /** Wishes 0 to 4: dark for the cells 0 to 4, of worth 3 each. */
    private static final String FIVE_WISHES = "NW00013dW01013dW02013dW03013dW04013d";

    public static void main(String[] args) throws IOException {
        Sentences.run(PricesEdgesTest.class);
    }

    private static NightNet lived() {
        NightNet net = Due.let("NH00H07W00013dW00012lW06322dO004O072");
        net.hour();
        net.keep(1);
        net.take(0);
        return net;
    }

    // ---- promise 23: due

    @Sentence("DUE; NONE. UNKNOWN; OUTSIDE: n.")
    static void dueWishTooSmall(Due due) {
        due.same("due(-1, 0)", Due.let(FIVE_WISHES).due(-1, 0), -1);
    }

    @Sentence("DUE; NONE. UNKNOWN; OUTSIDE: n.")
    static void dueWishTooGreat(Due due) {
        due.same("due(5, 0)", Due.let(FIVE_WISHES).due(5, 0), -1);
        due.same("due(0, 0) of none", new NightNet().due(0, 0), -1);
    }

    @Sentence("DUE; NONE. UNKNOWN; OUTSIDE: n.")
    static void dueNTooSmall(Due due) {
        due.same("due(0, -1)", Due.let(FIVE_WISHES).due(0, -1), -2);
    }

    @Sentence("DUE; NONE. UNKNOWN; OUTSIDE: n.")
    static void dueNTooGreat(Due due) {
        due.same("due(0, 6)", Due.let(FIVE_WISHES).due(0, 6), -2);
    }

    @Sentence("REFUSALS, of several the first that a call names")
    static void dueUnknownBeforeOutside(Due due) {
        due.same("due(5, 6)", Due.let(FIVE_WISHES).due(5, 6), -1);
        due.same("due(-1, -1)", Due.let(FIVE_WISHES).due(-1, -1), -1);
    }

    @Sentence("(0, if BEST does not GRANT it;")
    static void dueOfWhatIsNotGranted(Due due) {
        due.same("the last of five for four squares", Due.let(FIVE_WISHES).due(4, 4), 0);
        due.same("one that the first bars", Due.let("NW00019dW00018l").due(1, 1), 0);
        due.same("any for no squares", Due.let(FIVE_WISHES).due(0, 0), 0);
        due.same("one that is granted", Due.let("NW00019dW00018l").due(0, 1), 8);
    }

    @Sentence("if it were not there")
    static void dueOfTheLast(Due due) {
        due.same("the second", Due.let("NW00018lW00019d").due(1, 1), 8);
        due.same("the last of five", Due.let("NW00011lW00012lW00013lW00011lW00019d").due(4, 1), 7);
    }

    @Sentence("less what they have by BEST.")
    static void dueOfWhatTakesNothing(Due due) {
        due.same("one of five for five squares", Due.let(FIVE_WISHES).due(4, 5), 0);
        due.same("the only one", Due.let("NW00019d").due(0, 1), 0);
    }

    @Sentence("the most WORTH that the others could have, if it were not there (by LAWFUL HANGINGS of n or fewer)")
    static void dueByHowManyMayHang(Due due) {
        due.same("one of five for four squares", Due.let(FIVE_WISHES).due(0, 4), 3);
        due.same("one of two for one square", Due.let("NW00015dW01014d").due(0, 1), 4);
        due.same("one of three for one square", Due.let("NW00015dW01014dW02014d").due(0, 1), 4);
        due.same("one of two for two squares", Due.let("NW00015dW01014d").due(0, 2), 0);
    }

    @Sentence("the most WORTH that the others could have, if it were not there (by LAWFUL HANGINGS of n or fewer)")
    static void dueByFewer(Due due) {
        due.same("the others want none hung", Due.let("NW00015dW00021lW06061l").due(0, 5), 1);
        due.same("by none at all", Due.let("NW00019dW05061lW06061l").due(0, 5), 1);
    }

    @Sentence("the most WORTH that the others could have, if it were not there (by LAWFUL HANGINGS of n or fewer)")
    static void dueByWhatIsOwed(Due due) {
        due.same("room for one", Due.let("NW00015dW01014dO005").due(0, 5), 4);
        due.same("room for two", Due.let("NW00015dW01014dO004").due(0, 5), 0);
    }

    @Sentence("In what follows nothing is changed.")
    static void dueChangesNothing(Due due) {
        Twins.same(due, "due(0, 1)", PricesEdgesTest::lived, net -> net.due(0, 1));
        Twins.refused(due, "due(3, 0)", -1, PricesEdgesTest::lived, net -> net.due(3, 0));
        Twins.refused(due, "due(0, 6)", -2, PricesEdgesTest::lived, net -> net.due(0, 6));
    }

    // ---- promise 24: share

    private static void share(Due due, String text, int wish, int n, int above, int below) {
        NightNet net = Due.let(text);
        due.same("share(" + wish + ", " + n + ", true) of " + text, net.share(wish, n, true), above);
        due.same("share(" + wish + ", " + n + ", false) of " + text, net.share(wish, n, false), below);
    }

    @Sentence("SHARE. UNKNOWN; OUTSIDE: n.")
    static void shareWishTooSmall(Due due) {
        due.same("share(-1, 0, true)", Due.let(FIVE_WISHES).share(-1, 0, true), -1);
    }

    @Sentence("SHARE. UNKNOWN; OUTSIDE: n.")
    static void shareWishTooGreat(Due due) {
        due.same("share(5, 0, true)", Due.let(FIVE_WISHES).share(5, 0, true), -1);
        due.same("share(0, 0, true) of none", new NightNet().share(0, 0, true), -1);
    }

    @Sentence("SHARE. UNKNOWN; OUTSIDE: n.")
    static void shareNTooSmall(Due due) {
        due.same("share(0, -1, true)", Due.let(FIVE_WISHES).share(0, -1, true), -2);
    }

    @Sentence("SHARE. UNKNOWN; OUTSIDE: n.")
    static void shareNTooGreat(Due due) {
        due.same("share(0, 6, true)", Due.let(FIVE_WISHES).share(0, 6, true), -2);
    }

    @Sentence("REFUSALS, of several the first that a call names")
    static void shareUnknownBeforeOutside(Due due) {
        due.same("share(5, 6, true)", Due.let(FIVE_WISHES).share(5, 6, true), -1);
        due.same("share(-1, -1, false)", Due.let(FIVE_WISHES).share(-1, -1, false), -1);
    }

    @Sentence("refusals of them are told likewise.")
    static void shareRefusedBelow(Due due) {
        due.same("share(-1, 0, false)", Due.let(FIVE_WISHES).share(-1, 0, false), -1);
        due.same("share(5, 0, false)", Due.let(FIVE_WISHES).share(5, 0, false), -1);
        due.same("share(0, -1, false)", Due.let(FIVE_WISHES).share(0, -1, false), -2);
        due.same("share(0, 6, false)", Due.let(FIVE_WISHES).share(0, 6, false), -2);
    }

    @Sentence("below (1 and more), in least terms")
    static void shareOfNothing(Due due) {
        share(due, FIVE_WISHES, 0, 0, 0, 1);
        share(due, FIVE_WISHES, 4, 0, 0, 1);
        share(due, "NW00061d", 0, 5, 0, 1);
    }

    @Sentence("below (1 and more), in least terms")
    static void shareOfAWhole(Due due) {
        share(due, "NW00017d", 0, 1, 7, 1);
        share(due, FIVE_WISHES, 4, 5, 3, 1);
        share(due, "NW00014dW01014d", 0, 1, 2, 1);
    }

    @Sentence("below (1 and more), in least terms")
    static void shareInLeastTerms(Due due) {
        share(due, FIVE_WISHES, 0, 1, 3, 5);
        share(due, FIVE_WISHES, 0, 4, 12, 5);
        share(due, "NW00013dW00012lW01011d", 0, 1, 3, 2);
        share(due, "NW00013dW00012lW01011d", 2, 1, 1, 2);
    }

    @Sentence("in each order as likely")
    static void shareOverAllOrders(Due due) {
        // One square; the first that comes has it, a dearer one takes it: 1/5 of 1, then 1/4, 1/3, 1/2, all of each 1 more.
        String stairs = "NW00011dW01012dW02013dW03014dW04015d";
        share(due, stairs, 0, 1, 1, 5);
        share(due, stairs, 1, 1, 9, 20);
        share(due, stairs, 2, 1, 47, 60);
        share(due, stairs, 3, 1, 77, 60);
        share(due, stairs, 4, 1, 137, 60);
    }

    @Sentence("(by LAWFUL HANGINGS of n or fewer; those that have not come count for nothing)")
    static void shareByFewerAndByWhatIsOwed(Due due) {
        share(due, "NW00061lW06061l", 0, 5, 1, 1);
        share(due, "NW00013dW01013dO005", 0, 5, 3, 2);
        share(due, "NW00013dW01013dO004", 0, 5, 3, 1);
        share(due, "NW00013dO006", 0, 5, 0, 1);
    }

    @Sentence("In what follows nothing is changed.")
    static void shareChangesNothing(Due due) {
        Twins.same(due, "share(0, 1, true)", PricesEdgesTest::lived, net -> net.share(0, 1, true));
        Twins.refused(due, "share(3, 0, true)", -1, PricesEdgesTest::lived, net -> net.share(3, 0, true));
        Twins.refused(due, "share(0, 6, false)", -2, PricesEdgesTest::lived, net -> net.share(0, 6, false));
    }
}
