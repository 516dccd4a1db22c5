import java.io.IOException;

/** The edges that the document names in promises 31 to 33 and of an object as a whole. */
public final class SlotsEdgesTest {
    private static final String FIVE_SQUARES = "NH00H01H02H03H11";

    public static void main(String[] args) throws IOException {
        Sentences.run(SlotsEdgesTest.class);
    }

    /** Two squares, an act, slot 1 kept. */
    private static NightNet kept() {
        NightNet net = Due.let("NH00H07W00013d");
        net.hour();
        net.keep(1);
        net.take(0);
        return net;
    }

    // ---- promise 31: keep

    @Sentence("SLOTS 0 to 1 keep THE HANGING, THE HOUR")
    static void keepTooSmall(Due due) {
        due.same("keep(-1)", new NightNet().keep(-1), -1);
        due.same("keep(least)", new NightNet().keep(Integer.MIN_VALUE), -1);
    }

    @Sentence("SLOTS 0 to 1 keep THE HANGING, THE HOUR")
    static void keepTooGreat(Due due) {
        due.same("keep(2)", new NightNet().keep(2), -1);
        due.same("keep(most)", new NightNet().keep(Integer.MAX_VALUE), -1);
    }

    @Sentence("SLOTS 0 to 1 keep THE HANGING, THE HOUR")
    static void keepInBoth(Due due) {
        NightNet net = Due.let("NH03");
        due.same("keep(0)", net.keep(0), 1);
        net.hang(4);
        due.same("keep(1)", net.keep(1), 2);
        due.same("again(0)", net.again(0), 1);
        due.same("hanging", net.count(5), 8);
        due.same("again(1)", net.again(1), 2);
        due.same("hanging", net.count(5), 8 + 16);
    }

    @Sentence("They are kept: how many SQUARES hang.")
    static void keepNoneAndFive(Due due) {
        due.same("keep of none", new NightNet().keep(0), 0);
        due.same("keep of five", Due.let(FIVE_SQUARES).keep(1), 5);
    }

    @Sentence("They are kept")
    static void keepOverWhatWasKept(Due due) {
        NightNet net = Due.let("NH03");
        net.keep(0);
        net.move(3, 1);
        net.hour();
        net.keep(0);
        net.take(4);
        due.same("again(0)", net.again(0), 1);
        due.same("hanging", net.count(5), 16);
        due.same("hour", net.count(4), 1);
    }

    @Sentence("(THE ROW of ACTS is empty when one goes on).")
    static void keepLeavesTheRow(Due due) {
        NightNet net = Due.let("NH03");
        net.hang(4);
        net.keep(0);
        due.same("acts", net.count(6), 1);
        due.same("undo()", net.undo(), 0);
        due.same("hanging", net.count(5), 8);
    }

    @Sentence("What is refused changes nothing.")
    static void keepRefusedChangesNothing(Due due) {
        Twins.refused(due, "keep(2)", -1, SlotsEdgesTest::kept, net -> net.keep(2));
        Twins.refused(due, "keep(-1)", -1, SlotsEdgesTest::kept, net -> net.keep(-1));
    }

    // ---- promise 32: again

    @Sentence("UNKNOWN; STATE: none were kept.")
    static void againTooSmall(Due due) {
        due.same("again(-1)", kept().again(-1), -1);
    }

    @Sentence("UNKNOWN; STATE: none were kept.")
    static void againTooGreat(Due due) {
        due.same("again(2)", kept().again(2), -1);
    }

    @Sentence("UNKNOWN; STATE: none were kept.")
    static void againOfNone(Due due) {
        due.same("again(0) of a new one", new NightNet().again(0), -3);
        due.same("again(1) of a new one", new NightNet().again(1), -3);
        due.same("again(0), 1 is kept", kept().again(0), -3);
    }

    @Sentence("They are as they were kept: how many SQUARES hang.")
    static void againOfNoSquares(Due due) {
        NightNet net = new NightNet();
        net.keep(0);
        net.hang(0);
        due.same("again(0)", net.again(0), 0);
        due.same("hanging", net.count(5), 0);
    }

    @Sentence("They are as they were kept: how many SQUARES hang.")
    static void againOfFiveSquares(Due due) {
        NightNet net = Due.let(FIVE_SQUARES);
        net.keep(1);
        net.take(0);
        net.move(11, -1);
        due.same("again(1)", net.again(1), 5);
        due.same("hanging", net.count(5), 15 + 2048);
        due.same("hang(4)", net.hang(4), -4);
    }

    @Sentence("SLOTS 0 to 1 keep THE HANGING, THE HOUR")
    static void againAtTheLastHour(Due due) {
        NightNet net = Due.let("NH03");
        for (int hour = 0; hour < 5; hour++) {
            net.hour();
        }
        net.keep(0);
        net.hour();
        due.same("hour", net.count(4), 0);
        net.again(0);
        due.same("hour kept", net.count(4), 5);
        due.same("hour()", net.hour(), 0);
    }

    @Sentence("(THE ROW of ACTS is empty when one goes on).")
    static void againEmptiesTheRow(Due due) {
        NightNet net = kept();
        due.same("acts", net.count(6), 2);
        net.again(1);
        due.same("acts then", net.count(6), 0);
        due.same("undo()", net.undo(), -3);
        net.take(7);
        due.same("undo of a new act", net.undo(), 0);
        due.same("hanging", net.count(5), 1 + 128);
    }

    @Sentence("They are as they were kept")
    static void againTwice(Due due) {
        NightNet net = kept();
        due.same("again(1)", net.again(1), 2);
        net.take(0);
        net.take(7);
        due.same("again(1) once more", net.again(1), 2);
        due.same("hanging", net.count(5), 1 + 128);
    }

    @Sentence("SLOTS 0 to 1 keep THE HANGING, THE HOUR")
    static void againLeavesAllElse(Due due) {
        NightNet net = kept();
        net.tell(3, 0, true);
        net.seed(8);
        net.write('X');
        net.again(1);
        due.same("letters", net.count(0), 15);
        due.same("told", net.fits(1, 1), 8);
        due.same("wishes", net.count(1), 1);
        due.same("the seed", net.seed(0), 8);
    }

    @Sentence("What is refused changes nothing.")
    static void againUnknownChangesNothing(Due due) {
        Twins.refused(due, "again(2)", -1, SlotsEdgesTest::kept, net -> net.again(2));
        Twins.refused(due, "again(-1)", -1, SlotsEdgesTest::kept, net -> net.again(-1));
    }

    @Sentence("What is refused changes nothing.")
    static void againStateChangesNothing(Due due) {
        Twins.refused(due, "again(0)", -3, SlotsEdgesTest::kept, net -> net.again(0));
    }

    // ---- promise 33: count

    @Sentence("8 WISHES that are GRANTED as it is (bits). OUTSIDE.")
    static void countTooSmall(Due due) {
        due.same("count(-1)", kept().count(-1), -2);
    }

    @Sentence("8 WISHES that are GRANTED as it is (bits). OUTSIDE.")
    static void countTooGreat(Due due) {
        due.same("count(9)", kept().count(9), -2);
    }

    @Sentence("0 letters of THE TEXT, 1 WISHES, 2 PLACES that are OWED light, 3 SQUARES that hang, 4 THE HOUR")
    static void countOfAllThatIsFull(Due due) {
        NightNet net = Due.let(Due.LONGEST);
        for (int letter = 67; letter < 72; letter++) {
            net.write('N');
        }
        for (int hour = 0; hour < 17; hour++) {
            net.hour();
        }
        for (int told = 0; told < 6; told++) {
            net.tell(told, 0, true);
        }
        int[] want = {72, 5, 4, 5, 5, 7 + 1024 + 2048, 16, 6};
        for (int what = 0; what < want.length; what++) {
            due.same("count(" + what + ")", net.count(what), want[what]);
        }
    }

    @Sentence("8 WISHES that are GRANTED as it is (bits).")
    static void countOfWishesGranted(Due due) {
        NightNet net = Due.let("NH00W00011dW01011dW01011lW06011lW00011d");
        due.same("count(8)", net.count(8), 1 + 4 + 8 + 16);
        net.take(0);
        due.same("count(8) of none", net.count(8), 4 + 8);
        due.same("count(8) of no wishes", new NightNet().count(8), 0);
    }

    @Sentence("In what follows nothing is changed.")
    static void countChangesNothing(Due due) {
        Twins.refused(due, "count(9)", -2, SlotsEdgesTest::kept, net -> net.count(9));
        Twins.refused(due, "count(-1)", -2, SlotsEdgesTest::kept, net -> net.count(-1));
    }

    // ---- an object as a whole

    @Sentence("An object is used for at most 512 calls after it has been made")
    static void the512thCall(Due due) {
        NightNet net = new NightNet();
        for (int call = 1; call <= 511; call++) {
            due.same("call " + call, net.hour(), call % 6);
        }
        due.same("the 512th call", net.count(4), 511 % 6);
    }

    @Sentence("An object is used for at most 512 calls after it has been made")
    static void the512thCallOfMuchWork(Due due) {
        NightNet net = Due.let(Due.LONGEST);
        int calls = 68;
        while (calls < 508) {
            due.same("share", net.share(calls % 5, 5, true) > -1 ? 1 : 0, 1);
            net.hour();
            net.again(0);
            net.keep(0);
            calls += 4;
        }
        net.wipe();
        net.write('N');
        due.same("letting", net.letting(), 0);
        due.same("the 512th call", net.many(5), 792);
    }
}
