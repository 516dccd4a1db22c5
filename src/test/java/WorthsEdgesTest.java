import java.io.IOException;

/** The edges that the document names in promises 16 to 22 and in the terms that they use. */
public final class WorthsEdgesTest {
    /** Wishes 0 to 4: dark for the cells 0 to 4, of worth 9 each. */
    private static final String FIVE_WISHES = "NW00019dW01019dW02019dW03019dW04019d";

    public static void main(String[] args) throws IOException {
        Sentences.run(WorthsEdgesTest.class);
    }

    private static NightNet lived() {
        NightNet net = Due.let("NH00H07W00013dW00012lW06322dO004O072");
        net.hour();
        net.move(0, 1);
        net.keep(0);
        net.tell(1, 0, false);
        return net;
    }

    // ---- promise 16: worth

    @Sentence("A HANGING is a set of CELLS (bits, 5 at most).")
    static void worthHangingTooSmall(Due due) {
        due.same("worth(-1)", new NightNet().worth(-1), -2);
        due.same("worth(least)", new NightNet().worth(Integer.MIN_VALUE), -2);
    }

    @Sentence("A HANGING is a set of CELLS (bits, 5 at most).")
    static void worthHangingTooGreat(Due due) {
        due.same("worth(4096)", new NightNet().worth(4096), -2);
        due.same("worth(8192)", new NightNet().worth(8192), -2);
    }

    @Sentence("A HANGING is a set of CELLS (bits, 5 at most).")
    static void worthHangingOfSix(Due due) {
        due.same("worth of 0 to 5", new NightNet().worth(63), -2);
        due.same("worth of 6 to 11", new NightNet().worth(63 << 6), -2);
        due.same("worth of all", new NightNet().worth(4095), -2);
    }

    @Sentence("A HANGING is a set of CELLS (bits, 5 at most).")
    static void worthHangingOfNone(Due due) {
        due.same("worth(0)", Due.let(FIVE_WISHES).worth(0), 0);
        due.same("worth(0), for light", Due.let("NW00019l").worth(0), 9);
    }

    @Sentence("A HANGING is a set of CELLS (bits, 5 at most).")
    static void worthHangingOfFive(Due due) {
        due.same("worth of 0 to 4", Due.let(FIVE_WISHES).worth(31), 45);
        due.same("worth of 7 to 11", Due.let("NW11016d").worth(31 << 7), 6);
    }

    @Sentence("Its WORTH: of all WISHES that it GRANTS.")
    static void worthOfFirstAndLastWish(Due due) {
        NightNet net = Due.let(FIVE_WISHES);
        due.same("of the first one", net.worth(1), 9);
        due.same("of the last one", net.worth(16), 9);
        due.same("of no wishes", new NightNet().worth(1), 0);
    }

    @Sentence("By it a WISH is GRANTED, if its PLACE is DARK (light) in all its HOURS.")
    static void worthOfAllHours(Due due) {
        NightNet dark = Due.let("NW00431d");
        due.same("dark in 4, 5, 0", dark.worth(7), 1);
        due.same("not in 0", dark.worth(6), 0);
        due.same("not in 5", dark.worth(5), 0);
        due.same("not in 4", dark.worth(3), 0);
        NightNet light = Due.let("NW00431l");
        due.same("light in 4, 5, 0", light.worth(8 + 16 + 32 + 64), 1);
        due.same("not in 0", light.worth(1), 0);
        due.same("not in 5", light.worth(2), 0);
        due.same("not in 4", light.worth(4), 0);
    }

    @Sentence("Its WORTH: of all WISHES that it GRANTS.")
    static void worthOfWhatIsNotLawful(Due due) {
        due.same("worth(1)", Due.let("NW00014dO006").worth(1), 4);
    }

    @Sentence("In what follows nothing is changed.")
    static void worthChangesNothing(Due due) {
        Twins.same(due, "worth(31)", WorthsEdgesTest::lived, net -> net.worth(31));
        Twins.refused(due, "worth(63)", -2, WorthsEdgesTest::lived, net -> net.worth(63));
    }

    // ---- promise 17: lawful

    @Sentence("A HANGING is a set of CELLS (bits, 5 at most).")
    static void lawfulHangingTooSmall(Due due) {
        due.same("lawful(-1)", new NightNet().lawful(-1), -2);
        due.same("lawful(least)", new NightNet().lawful(Integer.MIN_VALUE), -2);
    }

    @Sentence("A HANGING is a set of CELLS (bits, 5 at most).")
    static void lawfulHangingTooGreat(Due due) {
        due.same("lawful(4096)", new NightNet().lawful(4096), -2);
    }

    @Sentence("A HANGING is a set of CELLS (bits, 5 at most).")
    static void lawfulHangingOfSix(Due due) {
        due.same("lawful of 0 to 5", new NightNet().lawful(63), -2);
        due.same("lawful of 6 to 11", new NightNet().lawful(63 << 6), -2);
    }

    @Sentence("It is LAWFUL, if all that is OWED is had.")
    static void lawfulIfNothingIsOwed(Due due) {
        due.same("lawful(0)", new NightNet().lawful(0), 1);
        due.same("lawful(31)", new NightNet().lawful(31), 1);
        due.same("lawful(31 << 7)", new NightNet().lawful(31 << 7), 1);
    }

    @Sentence("It is LAWFUL, if all that is OWED is had.")
    static void lawfulIfJustHad(Due due) {
        due.same("four owed, two dark", Due.let("NO004").lawful(3), 1);
        due.same("four owed, three dark", Due.let("NO004").lawful(7), 0);
        due.same("three owed in row 1, three dark", Due.let("NO113").lawful(7 << 9), 1);
        due.same("three owed in row 1, four dark", Due.let("NO113").lawful(15 << 8), 0);
    }

    @Sentence("PLACE pp is OWED n HOURS of light a day (1 to 6;")
    static void lawfulIfLeastOrMostIsOwed(Due due) {
        due.same("one owed, five dark", Due.let("NO051").lawful(31), 1);
        due.same("six owed, none dark", Due.let("NO056").lawful(0), 1);
        due.same("six owed, one dark", Due.let("NO056").lawful(1), 0);
        due.same("six owed, five dark in the other row", Due.let("NO056").lawful(31 << 6), 1);
    }

    @Sentence("It is LAWFUL, if all that is OWED is had.")
    static void lawfulIfAllIsHad(Due due) {
        for (String text : new String[] {"NO002O015O111", "NO111O015O002"}) {
            due.same("one dark, " + text, Due.let(text).lawful(1), 1);
            due.same("two dark, " + text, Due.let(text).lawful(3), 0);
            due.same("one and four, " + text, Due.let(text).lawful(1 + (15 << 6)), 1);
        }
        due.same("row 0 has it, row 1 has not", Due.let("NO001O066").lawful(64), 0);
    }

    @Sentence("six columns round it (0 to 5; behind 5 comes 0) and two rows")
    static void lawfulAtTheEdgesOfRows(Due due) {
        due.same("three in row 0, 6 is in the other", Due.let("NO003").lawful(32 + 16 + 8 + 64), 1);
        due.same("four in row 0 with 5", Due.let("NO003").lawful(32 + 16 + 8 + 4), 0);
        due.same("three in row 1, 5 is in the other", Due.let("NO063").lawful(32 + 64 + 128 + 256), 1);
        due.same("four in row 1 with 6", Due.let("NO063").lawful(64 + 128 + 256 + 512), 0);
    }

    @Sentence("In what follows nothing is changed.")
    static void lawfulChangesNothing(Due due) {
        Twins.same(due, "lawful(31)", WorthsEdgesTest::lived, net -> net.lawful(31));
        Twins.refused(due, "lawful(63)", -2, WorthsEdgesTest::lived, net -> net.lawful(63));
    }

    // ---- promise 18: best

    private static void best(Due due, String text, int n, int worth, int cells, int wishes) {
        NightNet net = Due.let(text);
        due.same("best(" + n + ", 0) of " + text, net.best(n, 0), worth);
        due.same("best(" + n + ", 1) of " + text, net.best(n, 1), cells);
        due.same("best(" + n + ", 2) of " + text, net.best(n, 2), wishes);
    }

    @Sentence("BEST for n SQUARES (0 to 5)")
    static void bestNTooSmall(Due due) {
        due.same("best(-1, 0)", new NightNet().best(-1, 0), -2);
    }

    @Sentence("BEST for n SQUARES (0 to 5)")
    static void bestNTooGreat(Due due) {
        due.same("best(6, 0)", new NightNet().best(6, 0), -2);
    }

    @Sentence("NONE. OUTSIDE: n, what.")
    static void bestWhatTooSmall(Due due) {
        due.same("best(0, -1)", new NightNet().best(0, -1), -2);
    }

    @Sentence("NONE. OUTSIDE: n, what.")
    static void bestWhatTooGreat(Due due) {
        due.same("best(0, 3)", new NightNet().best(0, 3), -2);
    }

    @Sentence("BEST for n SQUARES (0 to 5)")
    static void bestOfNoSquares(Due due) {
        best(due, FIVE_WISHES, 0, 0, 0, 0);
        best(due, "NW00013dW00012l", 0, 2, 0, 2);
    }

    @Sentence("BEST for n SQUARES (0 to 5)")
    static void bestOfFiveSquares(Due due) {
        best(due, FIVE_WISHES, 5, 45, 31, 31);
    }

    @Sentence("BEST: its WORTH (what = 0), CELLS as bits (1), WISHES that it GRANTS as bits (2)")
    static void bestOfNoWishes(Due due) {
        best(due, "N", 5, 0, 0, 0);
        best(due, "NH00H07", 5, 0, 0, 0);
    }

    @Sentence("of all LAWFUL HANGINGS of n or fewer the one of most WORTH")
    static void bestOfJustSoMany(Due due) {
        best(due, "NW00023d", 1, 0, 0, 0);
        best(due, "NW00023d", 2, 3, 33, 1);
    }

    @Sentence("of all LAWFUL HANGINGS of n or fewer the one of most WORTH")
    static void bestOfFewer(Due due) {
        best(due, "NW00063lW06063l", 5, 6, 0, 3);
    }

    @Sentence("of all LAWFUL HANGINGS of n or fewer the one of most WORTH")
    static void bestOfFarFewer(Due due) {
        best(due, "NW00069lW06069lW00522d", 2, 18, 0, 3);
        best(due, "NW00069lW06069lW00522d", 5, 18, 0, 3);
    }

    @Sentence("of like ones that of fewest SQUARES, then the least by bits.")
    static void bestOfFewestSquares(Due due) {
        best(due, "NW06014dW01024d", 2, 4, 64, 1);
        best(due, "NW06014dW01024d", 5, 8, 64 + 3, 3);
    }

    @Sentence("of like ones that of fewest SQUARES, then the least by bits.")
    static void bestOfLeastBits(Due due) {
        best(due, "NW06012dW00012d", 1, 2, 1, 2);
        best(due, FIVE_WISHES, 4, 36, 15, 15);
        best(due, "NW05015dW11015dW04015d", 2, 10, 16 + 32, 5);
    }

    @Sentence("of all LAWFUL HANGINGS of n or fewer the one of most WORTH")
    static void bestOfLawfulOnes(Due due) {
        best(due, "NW00019dW06011dO006", 5, 1, 64, 2);
        best(due, FIVE_WISHES + "O003", 5, 27, 7, 7);
        best(due, FIVE_WISHES + "O006O066", 5, 0, 0, 0);
    }

    @Sentence("In what follows nothing is changed.")
    static void bestChangesNothing(Due due) {
        Twins.same(due, "best(5, 1)", WorthsEdgesTest::lived, net -> net.best(5, 1));
        Twins.refused(due, "best(6, 0)", -2, WorthsEdgesTest::lived, net -> net.best(6, 0));
    }

    // ---- promise 19: many

    @Sentence("How many LAWFUL HANGINGS of just n SQUARES there are. OUTSIDE.")
    static void manyNTooSmall(Due due) {
        due.same("many(-1)", new NightNet().many(-1), -2);
    }

    @Sentence("How many LAWFUL HANGINGS of just n SQUARES there are. OUTSIDE.")
    static void manyNTooGreat(Due due) {
        due.same("many(6)", new NightNet().many(6), -2);
    }

    @Sentence("How many LAWFUL HANGINGS of just n SQUARES there are.")
    static void manyOfNoneAndFive(Due due) {
        due.same("many(0)", new NightNet().many(0), 1);
        due.same("many(5)", new NightNet().many(5), 792);
    }

    @Sentence("How many LAWFUL HANGINGS of just n SQUARES there are.")
    static void manyOfJustN(Due due) {
        due.same("many(1)", new NightNet().many(1), 12);
        due.same("many(4)", new NightNet().many(4), 495);
    }

    @Sentence("How many LAWFUL HANGINGS of just n SQUARES there are.")
    static void manyLawfulOnes(Due due) {
        due.same("none at all may hang, many(0)", Due.let("NO006O066").many(0), 1);
        due.same("none at all may hang, many(1)", Due.let("NO006O066").many(1), 0);
        due.same("none at all may hang, many(5)", Due.let("NO006O066").many(5), 0);
        due.same("four in row 0, many(4)", Due.let("NO002").many(4), 495);
        due.same("four in row 0, many(5)", Due.let("NO002").many(5), 786);
    }

    @Sentence("In what follows nothing is changed.")
    static void manyChangesNothing(Due due) {
        Twins.same(due, "many(5)", WorthsEdgesTest::lived, net -> net.many(5));
        Twins.refused(due, "many(6)", -2, WorthsEdgesTest::lived, net -> net.many(6));
    }

    // ---- promise 20: bars

    @Sentence("UNKNOWN (there is no such PLACE, CELL, WISH, SLOT)")
    static void barsWishTooSmall(Due due) {
        due.same("bars(-1, 0)", Due.let(FIVE_WISHES).bars(-1, 0), -1);
    }

    @Sentence("UNKNOWN (there is no such PLACE, CELL, WISH, SLOT)")
    static void barsWishTooGreat(Due due) {
        due.same("bars(5, 0)", Due.let(FIVE_WISHES).bars(5, 0), -1);
        due.same("bars(0, 0) of none", new NightNet().bars(0, 0), -1);
    }

    @Sentence("WISHES that one BARS, as bits. UNKNOWN; OUTSIDE: n.")
    static void barsNTooSmall(Due due) {
        due.same("bars(0, -1)", Due.let(FIVE_WISHES).bars(0, -1), -2);
    }

    @Sentence("WISHES that one BARS, as bits. UNKNOWN; OUTSIDE: n.")
    static void barsNTooGreat(Due due) {
        due.same("bars(0, 6)", Due.let(FIVE_WISHES).bars(0, 6), -2);
    }

    @Sentence("REFUSALS, of several the first that a call names")
    static void barsUnknownBeforeOutside(Due due) {
        due.same("bars(5, 6)", Due.let(FIVE_WISHES).bars(5, 6), -1);
        due.same("bars(-1, -1)", Due.let(FIVE_WISHES).bars(-1, -1), -1);
    }

    @Sentence("A WISH BARS another one for n SQUARES")
    static void barsNotItself(Due due) {
        due.same("bars(0, 5) of one", Due.let("NW00011d").bars(0, 5), 0);
        due.same("bars(0, 0) of one for light", Due.let("NW00011l").bars(0, 0), 0);
        due.same("bars(0, 1) of two that are alike", Due.let("NW00011dW00011d").bars(0, 1), 0);
    }

    @Sentence("if no LAWFUL HANGING of n or fewer GRANTS both")
    static void barsForTooFewSquares(Due due) {
        due.same("bars(0, 1), one square for two", Due.let("NW00011dW01011d").bars(0, 1), 2);
        due.same("bars(1, 1)", Due.let("NW00011dW01011d").bars(1, 1), 1);
        due.same("bars(0, 2)", Due.let("NW00011dW01011d").bars(0, 2), 0);
        due.same("bars(0, 4) of five", Due.let("NW00051dW06011d").bars(0, 4), 0);
        due.same("bars(0, 5) of six", Due.let("NW00051dW06011d").bars(0, 5), 2);
    }

    @Sentence("if no LAWFUL HANGING of n or fewer GRANTS both")
    static void barsNotIfFewerGrantBoth(Due due) {
        due.same("bars(0, 5)", Due.let("NW00061lW06061l").bars(0, 5), 0);
    }

    @Sentence("but for each of the two there is one that does.")
    static void barsNotIfNoneGrantsOne(Due due) {
        NightNet net = Due.let("NW00061dW00011lW06011d");
        due.same("bars(0, 5), never granted", net.bars(0, 5), 0);
        due.same("bars(1, 5), of one never granted", net.bars(1, 5), 0);
        due.same("bars(2, 5), of one never granted", net.bars(2, 5), 0);
        due.same("bars(0, 0) of two", Due.let("NW00011dW01011d").bars(0, 0), 0);
        NightNet last = Due.let("NW00011lW06011dW00061d");
        due.same("bars(0, 5), the last is never granted", last.bars(0, 5), 0);
        due.same("bars(2, 5), never granted", last.bars(2, 5), 0);
    }

    @Sentence("if no LAWFUL HANGING of n or fewer GRANTS both")
    static void barsNotIfAllAreGranted(Due due) {
        due.same("bars(0, 2)", Due.let("NW00011dW01011dW00011dW00011dW00011d").bars(0, 2), 0);
        due.same("bars(0, 1)", Due.let("NW00011dW01011dW00011dW00011dW00011d").bars(0, 1), 2);
    }

    @Sentence("if no LAWFUL HANGING of n or fewer GRANTS both")
    static void barsByWhatIsOwed(Due due) {
        due.same("room for one", Due.let("NW00011dW01011dO005").bars(0, 5), 2);
        due.same("room for two", Due.let("NW00011dW01011dO004").bars(0, 5), 0);
        due.same("room for none", Due.let("NW00011dW01011dO006").bars(0, 5), 0);
    }

    @Sentence("WISHES that one BARS, as bits.")
    static void barsAllOthers(Due due) {
        NightNet net = Due.let("NW00011dW00011lW00012lW00013lW00014l");
        due.same("bars(0, 1)", net.bars(0, 1), 30);
        due.same("bars(4, 5)", net.bars(4, 5), 1);
    }

    @Sentence("In what follows nothing is changed.")
    static void barsChangesNothing(Due due) {
        Twins.same(due, "bars(0, 1)", WorthsEdgesTest::lived, net -> net.bars(0, 1));
        Twins.refused(due, "bars(3, 0)", -1, WorthsEdgesTest::lived, net -> net.bars(3, 0));
        Twins.refused(due, "bars(0, 6)", -2, WorthsEdgesTest::lived, net -> net.bars(0, 6));
    }

    // ---- promise 21: loss

    @Sentence("and as many CELLS of THE NET")
    static void lossTooSmall(Due due) {
        due.same("loss(-1)", Due.let("NH00H11").loss(-1), -1);
    }

    @Sentence("and as many CELLS of THE NET")
    static void lossTooGreat(Due due) {
        due.same("loss(12)", Due.let("NH00H11").loss(12), -1);
        due.same("loss(32)", Due.let("NH00H11").loss(32), -1);
    }

    @Sentence("STATE: no SQUARE hangs there.")
    static void lossWhereNoneHangs(Due due) {
        due.same("loss(1)", Due.let("NH00").loss(1), -3);
        due.same("loss(0) of none", new NightNet().loss(0), -3);
    }

    @Sentence("is more with it than without (LAWFUL or not; less than 0, if it is less), and 1000.")
    static void lossOfNothing(Due due) {
        due.same("loss(0)", Due.let("NH00H11W05011d").loss(0), 1000);
        due.same("loss(11)", Due.let("NH00H11W05011d").loss(11), 1000);
    }

    @Sentence("is more with it than without (LAWFUL or not; less than 0, if it is less), and 1000.")
    static void lossLessThan0(Due due) {
        due.same("all five want light", Due.let("NH00W00019lW00019lW00019lW00019lW00019l").loss(0), 955);
        due.same("one of worth 1 does", Due.let("NH11W11011l").loss(11), 999);
    }

    @Sentence("is more with it than without (LAWFUL or not; less than 0, if it is less), and 1000.")
    static void lossOfMost(Due due) {
        due.same("all five want dark", Due.let("NH00W00019dW00019dW00019dW00019dW00019d").loss(0), 1045);
        due.same("one of worth 1 does", Due.let("NH11W11011d").loss(11), 1001);
    }

    @Sentence("(LAWFUL or not;")
    static void lossOfWhatIsNotLawful(Due due) {
        due.same("not lawful with it", Due.let("NH00W00014dO006").loss(0), 1004);
        due.same("not lawful without it", Due.let("NH00H01W00014dO006").loss(0), 1004);
    }

    @Sentence("In what follows nothing is changed.")
    static void lossChangesNothing(Due due) {
        Twins.same(due, "loss(1)", WorthsEdgesTest::lived, net -> net.loss(1));
        Twins.refused(due, "loss(0)", -3, WorthsEdgesTest::lived, net -> net.loss(0));
        Twins.refused(due, "loss(12)", -1, WorthsEdgesTest::lived, net -> net.loss(12));
    }

    // ---- promise 22: flow

    @Sentence("FLOW. OUTSIDE: hanging; STATE: it has not as many SQUARES as hang.")
    static void flowHangingTooSmall(Due due) {
        due.same("flow(-1)", new NightNet().flow(-1), -2);
        due.same("flow(least)", Due.let("NH00").flow(Integer.MIN_VALUE), -2);
    }

    @Sentence("FLOW. OUTSIDE: hanging; STATE: it has not as many SQUARES as hang.")
    static void flowHangingTooGreat(Due due) {
        due.same("flow(4096)", Due.let("NH00").flow(4096), -2);
    }

    @Sentence("REFUSALS, of several the first that a call names")
    static void flowOutsideBeforeState(Due due) {
        due.same("flow to six", Due.let("NH00").flow(63), -2);
        due.same("flow to twelve", Due.let("NH00H01H02H03H04").flow(4095), -2);
    }

    @Sentence("STATE: it has not as many SQUARES as hang.")
    static void flowToOneFewer(Due due) {
        due.same("flow(0) of one", Due.let("NH00").flow(0), -3);
        due.same("flow(15) of five", Due.let("NH00H01H02H03H04").flow(15), -3);
    }

    @Sentence("STATE: it has not as many SQUARES as hang.")
    static void flowToOneMore(Due due) {
        due.same("flow(1) of none", new NightNet().flow(1), -3);
        due.same("flow(31) of four", Due.let("NH00H01H02H03").flow(31), -3);
    }

    @Sentence("FLOW to another HANGING of as many SQUARES: the fewest single MOVES (each to a CELL next to it)")
    static void flowToTheSame(Due due) {
        due.same("flow of none", new NightNet().flow(0), 0);
        due.same("flow of one in 11", Due.let("NH11").flow(2048), 0);
        due.same("flow of one in 6", Due.let("NH06").flow(64), 0);
        due.same("flow of one in 5", Due.let("NH05").flow(32), 0);
        due.same("flow of five", Due.let("NH00H01H02H03H04").flow(31), 0);
    }

    @Sentence("the fewest single MOVES (each to a CELL next to it)")
    static void flowGoesRound(Due due) {
        due.same("0 to 5", Due.let("NH00").flow(32), 1);
        due.same("5 to 0", Due.let("NH05").flow(1), 1);
        due.same("11 to 6", Due.let("NH11").flow(64), 1);
        due.same("0 to 4", Due.let("NH00").flow(16), 2);
        due.same("11 to 1", Due.let("NH11").flow(2), 3);
    }

    @Sentence("the fewest single MOVES (each to a CELL next to it)")
    static void flowOfTheFarthest(Due due) {
        due.same("0 to 3, half round", Due.let("NH00").flow(8), 3);
        due.same("0 to 9, half round in the other row", Due.let("NH00").flow(512), 4);
        due.same("0 to 6, the other row", Due.let("NH00").flow(64), 1);
    }

    @Sentence("if it does not matter which SQUARE is where.")
    static void flowOfAnySquare(Due due) {
        due.same("0, 2 to 1, 5", Due.let("NH00H02").flow(2 + 32), 2);
        due.same("0, 1 to 1, 2", Due.let("NH00H01").flow(2 + 4), 2);
        due.same("0 to 4 to 1 to 5", Due.let("NH00H01H02H03H04").flow(62), 1);
        due.same("0 to 4 to 6 to 10", Due.let("NH00H01H02H03H04").flow(31 << 6), 5);
        due.same("0, 1, 2 to 1, 2, 3", Due.let("NH00H01H02").flow(14), 3);
    }

    @Sentence("In what follows nothing is changed.")
    static void flowChangesNothing(Due due) {
        Twins.same(due, "flow(6)", WorthsEdgesTest::lived, net -> net.flow(6));
        Twins.refused(due, "flow(63)", -2, WorthsEdgesTest::lived, net -> net.flow(63));
        Twins.refused(due, "flow(1)", -3, WorthsEdgesTest::lived, net -> net.flow(1));
    }
}
