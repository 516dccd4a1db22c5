import java.io.IOException;

/** The edges that the document names in promises 1 to 9 and in the terms that they use. */
public final class LettingEdgesTest {
    /** Fills the text to 72 letters. */
    private static final String FULL_TEXT = Due.LONGEST + "OOOOO";
    private static final String FIVE_SQUARES = "NH00H01H02H03H04";
    private static final String FIVE_WISHES = "NW00011dW01011dW02011dW03011dW04011d";
    private static final String FOUR_OWED = "NO001O011O021O031";

    public static void main(String[] args) throws IOException {
        Sentences.run(LettingEdgesTest.class);
    }

    // ---- promise 1: a new object

    @Sentence("No squares, no wishes.")
    static void newHasNoSquares(Due due) {
        due.same("count(3)", new NightNet().count(3), 0);
        due.same("count(5)", new NightNet().count(5), 0);
    }

    @Sentence("No squares, no wishes.")
    static void newHasNoWishes(Due due) {
        due.same("count(1)", new NightNet().count(1), 0);
        due.same("wish(0, 0)", new NightNet().wish(0, 0), -1);
    }

    @Sentence("At first THE LETTING is N.")
    static void newOwesNothing(Due due) {
        due.same("count(2)", new NightNet().count(2), 0);
        for (int place = 0; place < 12; place++) {
            due.same("place(" + place + ", 2)", new NightNet().place(place, 2), 0);
        }
        due.same("many(5)", new NightNet().many(5), 792);
    }

    @Sentence("THE HOUR is 0 at first.")
    static void newIsAtHour0(Due due) {
        due.same("count(4)", new NightNet().count(4), 0);
    }

    @Sentence("UNKNOWN = -1, OUTSIDE = -2, STATE = -3, FULL = -4, NONE = -9")
    static void constants(Due due) throws ReflectiveOperationException {
        // Read from the class itself: javac writes a constant's value into each class that names it.
        due.same("UNKNOWN", NightNet.class.getField("UNKNOWN").getInt(null), -1);
        due.same("OUTSIDE", NightNet.class.getField("OUTSIDE").getInt(null), -2);
        due.same("STATE", NightNet.class.getField("STATE").getInt(null), -3);
        due.same("FULL", NightNet.class.getField("FULL").getInt(null), -4);
        due.same("NONE", NightNet.class.getField("NONE").getInt(null), -9);
    }

    // ---- promise 2: write

    @Sentence("A letter (0 to 255) comes behind THE TEXT: how long it is. OUTSIDE")
    static void writeLetterTooSmall(Due due) {
        due.same("write(-1)", new NightNet().write(-1), -2);
        due.same("write(least)", new NightNet().write(Integer.MIN_VALUE), -2);
    }

    @Sentence("A letter (0 to 255) comes behind THE TEXT: how long it is.")
    static void writeLeastLetter(Due due) {
        due.same("write(0)", new NightNet().write(0), 1);
    }

    @Sentence("A letter (0 to 255) comes behind THE TEXT: how long it is.")
    static void writeGreatestLetter(Due due) {
        due.same("write(255)", new NightNet().write(255), 1);
    }

    @Sentence("A letter (0 to 255) comes behind THE TEXT: how long it is. OUTSIDE")
    static void writeLetterTooGreat(Due due) {
        due.same("write(256)", new NightNet().write(256), -2);
        due.same("write(most)", new NightNet().write(Integer.MAX_VALUE), -2);
    }

    @Sentence("THE TEXT is letters (72 at most).")
    static void writeUntilJustFull(Due due) {
        NightNet net = Due.written(FULL_TEXT.substring(1));
        due.same("write the 72nd", net.write('O'), 72);
        due.same("count(0)", net.count(0), 72);
    }

    @Sentence("FULL: there are 72.")
    static void writeOneMore(Due due) {
        due.same("write the 73rd", Due.written(FULL_TEXT).write('O'), -4);
    }

    @Sentence("REFUSALS, of several the first that a call names")
    static void writeOutsideBeforeFull(Due due) {
        due.same("write(256) when full", Due.written(FULL_TEXT).write(256), -2);
        due.same("write(-1) when full", Due.written(FULL_TEXT).write(-1), -2);
    }

    @Sentence("What is refused changes nothing.")
    static void writeOutsideChangesNothing(Due due) {
        Twins.refused(due, "write(256)", -2, () -> Due.let("NH00"), net -> net.write(256));
        Twins.refused(due, "write(-1)", -2, () -> Due.let("NH00"), net -> net.write(-1));
    }

    @Sentence("What is refused changes nothing.")
    static void writeFullChangesNothing(Due due) {
        Twins.refused(due, "write when full", -4, () -> Due.written(FULL_TEXT), net -> net.write('X'));
    }

    // ---- promise 3: wipe

    @Sentence("THE TEXT is empty: how long it was.")
    static void wipeOfEmptyText(Due due) {
        NightNet net = new NightNet();
        due.same("wipe()", net.wipe(), 0);
        due.same("wipe() again", net.wipe(), 0);
    }

    @Sentence("THE TEXT is empty: how long it was.")
    static void wipeOfFullText(Due due) {
        NightNet net = Due.written(FULL_TEXT);
        due.same("wipe()", net.wipe(), 72);
        due.same("wipe() again", net.wipe(), 0);
        due.same("count(0)", net.count(0), 0);
        due.same("write('N')", net.write('N'), 1);
        due.same("fault()", net.fault(), -9);
    }

    @Sentence("THE TEXT is empty: how long it was.")
    static void wipeLeavesTheLetting(Due due) {
        NightNet net = Due.let("NH03W03011dO006");
        net.wipe();
        due.same("squares", net.count(5), 8);
        due.same("wishes", net.count(1), 1);
        due.same("owed", net.count(2), 1);
    }

    // ---- promise 4: fault, of the whole

    private static void fault(Due due, String text, int want) {
        due.same("fault of " + text, Due.written(text).fault(), want);
    }

    /** That each of these letters can come behind a text, and none of the others. */
    private static void letters(Due due, String text, String good, String bad) {
        for (char letter : good.toCharArray()) {
            int got = Due.written(text + letter).fault();
            due.same("fault of " + text + letter, got == text.length() ? 1 : 0, 0);
        }
        for (char letter : bad.toCharArray()) {
            fault(due, text + letter, text.length());
        }
    }

    @Sentence("its length, if it is only not at its end")
    static void faultOfEmptyText(Due due) {
        fault(due, "", 0);
    }

    @Sentence("A LETTING is a TEXT: N, then PARTS, none or more")
    static void faultOfNoParts(Due due) {
        fault(due, "N", -9);
    }

    @Sentence("A LETTING is a TEXT: N, then PARTS, none or more")
    static void faultOfTextWithoutN(Due due) {
        letters(due, "", "N", "nMOHW0\0\u00ff");
        fault(due, "H00", 0);
    }

    @Sentence("A LETTING is a TEXT: N, then PARTS, none or more")
    static void faultOfWhatIsNoPart(Due due) {
        letters(due, "N", "HWO", "NGIVXPhwo0\0\u00ff");
        letters(due, "NH00", "HWO", "NGIVXPhwo0\0\u00ff");
        letters(due, "NW00011d", "HWO", "NGIVXPhwo0dl");
        letters(due, "NO001", "HWO", "NGIVXPhwo01");
    }

    @Sentence("FAULT: the place (from 0 on) of the first letter by which THE TEXT can be no LETTING, whatever came behind it")
    static void faultIsTheFirst(Due due) {
        fault(due, "NH12H13", 3);
        fault(due, "NH0XH0X", 3);
        fault(due, "XX", 0);
        fault(due, "NXX", 1);
        fault(due, "NH00H00H", 6);
    }

    @Sentence("whatever came behind it (its length set aside")
    static void faultOfFullText(Due due) {
        fault(due, FULL_TEXT, 67);
        fault(due, FIVE_SQUARES + "W00011d".repeat(5) + "O001O011O021O03", 66);
    }

    @Sentence("its length, if it is only not at its end")
    static void faultOfWhatIsNotAtItsEnd(Due due) {
        for (String part : new String[] {"H00", "W00011d", "O001"}) {
            for (int letters = 1; letters < part.length(); letters++) {
                fault(due, "N" + part.substring(0, letters), 1 + letters);
                fault(due, "NH11" + part.substring(0, letters), 4 + letters);
            }
        }
    }

    @Sentence("NONE: none.")
    static void faultOfLongestLetting(Due due) {
        fault(due, Due.LONGEST, -9);
    }

    @Sentence("Nothing is promised beyond the answers and state changes described above")
    static void faultLeavesTheLetting(Due due) {
        for (String text : new String[] {"NH05W05022lO116", "NH05W05022lO116X"}) {
            NightNet net = Due.let("NH00W00011dO001");
            net.wipe();
            for (char letter : text.toCharArray()) {
                net.write(letter);
            }
            net.fault();
            due.same("squares", net.count(5), 1);
            due.same("place of the wish", net.wish(0, 0), 0);
            due.same("granted", net.count(8), 1);
            due.same("owed", net.place(0, 2) * 10 + net.place(11, 2), 10);
            due.same("letters", net.count(0), text.length());
        }
    }

    // ---- fault, of squares

    @Sentence("a SQUARE hangs in CELL cc (00 to 11; 5 at most, no two in one)")
    static void faultOfSquareFirstFigure(Due due) {
        letters(due, "NH", "01", "/23:9H\0");
    }

    @Sentence("a SQUARE hangs in CELL cc (00 to 11; 5 at most, no two in one)")
    static void faultOfSquareBelow10(Due due) {
        letters(due, "NH0", "0123456789", "/:AH\0");
    }

    @Sentence("a SQUARE hangs in CELL cc (00 to 11; 5 at most, no two in one)")
    static void faultOfSquareFrom10On(Due due) {
        letters(due, "NH1", "01", "/23:H\0");
    }

    @Sentence("a SQUARE hangs in CELL cc (00 to 11; 5 at most, no two in one)")
    static void faultOfFifthSquare(Due due) {
        fault(due, FIVE_SQUARES, -9);
        fault(due, "NH00H01H02H10H11", -9);
    }

    @Sentence("a sixth H, W, a fifth O by its letter")
    static void faultOfSixthSquare(Due due) {
        fault(due, FIVE_SQUARES + "H", 16);
        fault(due, FIVE_SQUARES + "H05", 16);
        fault(due, FIVE_SQUARES + "W00011dO001H05", 27);
    }

    @Sentence("a SQUARE hangs in CELL cc (00 to 11; 5 at most, no two in one)")
    static void faultOfTwoSquaresInOne(Due due) {
        fault(due, "NH00H00", 6);
        fault(due, "NH09H08H09", 9);
        fault(due, "NH11H11", 6);
        fault(due, "NH10W00011dH10", 13);
    }

    @Sentence("so the first figure of a CELL, or a PLACE, of which none with it is left: of H10H11H1 the last 1")
    static void faultOfFirstFigureOfSquare(Due due) {
        fault(due, "NH10H11H1", 8);
        fault(due, "NH11H10H1", 8);
        fault(due, "NH11H00H10H1", 11);
    }

    @Sentence("so the first figure of a CELL, or a PLACE, of which none with it is left: of H10H11H1 the last 1")
    static void faultWhereOneWithItIsLeft(Due due) {
        fault(due, "NH10H1", 6);
        fault(due, "NH11H1", 6);
        fault(due, "NH10H11H0", 9);
        fault(due, "NH00H01H02H03H0", 15);
        fault(due, "NO101O1", 7);
        fault(due, "NO111O1", 7);
    }

    // ---- fault, of wishes

    @Sentence("a WISH (5 at most, numbered as they are told) of PLACE pp (00 to 11)")
    static void faultOfWishPlace(Due due) {
        letters(due, "NW", "01", "/23:9W\0");
        letters(due, "NW0", "0123456789", "/:AW\0");
        letters(due, "NW1", "01", "/23:W\0");
    }

    @Sentence("from HOUR h (0 to 5) on for l HOURS (1 to 6, round)")
    static void faultOfWishHour(Due due) {
        letters(due, "NW00", "012345", "/67:d\0");
    }

    @Sentence("from HOUR h (0 to 5) on for l HOURS (1 to 6, round)")
    static void faultOfWishHours(Due due) {
        letters(due, "NW000", "123456", "/07:d\0");
        letters(due, "NW005", "123456", "/07:d\0");
    }

    @Sentence("of WORTH v (1 to 9), k: d for DARK, l for light")
    static void faultOfWishWorth(Due due) {
        letters(due, "NW0001", "123456789", "/0:d\0");
    }

    @Sentence("of WORTH v (1 to 9), k: d for DARK, l for light")
    static void faultOfWishKind(Due due) {
        letters(due, "NW00011", "dl", "cekmDL10\0");
    }

    @Sentence("a WISH (5 at most, numbered as they are told) of PLACE pp (00 to 11)")
    static void faultOfFifthWish(Due due) {
        fault(due, FIVE_WISHES, -9);
        fault(due, "N" + "W10011d".repeat(5), -9);
    }

    @Sentence("a sixth H, W, a fifth O by its letter")
    static void faultOfSixthWish(Due due) {
        fault(due, FIVE_WISHES + "W", 36);
        fault(due, FIVE_WISHES + "W05011d", 36);
        fault(due, FIVE_WISHES + "H00O001W", 43);
    }

    // ---- fault, of what is owed

    @Sentence("PLACE pp is OWED n HOURS of light a day (1 to 6; 4 such at most, no PLACE twice)")
    static void faultOfOwedPlace(Due due) {
        letters(due, "NO", "01", "/23:9O\0");
        letters(due, "NO0", "0123456789", "/:AO\0");
        letters(due, "NO1", "01", "/23:O\0");
    }

    @Sentence("PLACE pp is OWED n HOURS of light a day (1 to 6; 4 such at most, no PLACE twice)")
    static void faultOfOwedHours(Due due) {
        letters(due, "NO00", "123456", "/07:d\0");
    }

    @Sentence("PLACE pp is OWED n HOURS of light a day (1 to 6; 4 such at most, no PLACE twice)")
    static void faultOfFourthOwed(Due due) {
        fault(due, FOUR_OWED, -9);
        fault(due, "NO101O111O001O011", -9);
    }

    @Sentence("a sixth H, W, a fifth O by its letter")
    static void faultOfFifthOwed(Due due) {
        fault(due, FOUR_OWED + "O", 17);
        fault(due, FOUR_OWED + "O041", 17);
        fault(due, FOUR_OWED + "H00W00011dO", 27);
    }

    @Sentence("PLACE pp is OWED n HOURS of light a day (1 to 6; 4 such at most, no PLACE twice)")
    static void faultOfPlaceOwedTwice(Due due) {
        fault(due, "NO001O00", 7);
        fault(due, "NO091O081O092", 11);
        fault(due, "NO116O11", 7);
        fault(due, "NO001H00W00011dO00", 17);
    }

    @Sentence("so the first figure of a CELL, or a PLACE, of which none with it is left: of H10H11H1 the last 1")
    static void faultOfFirstFigureOfOwed(Due due) {
        fault(due, "NO101O111O1", 10);
        fault(due, "NO111O001O106O1", 14);
    }

    // ---- promise 5: letting

    @Sentence("THE TEXT (that stays as it is) is THE LETTING (HOUR 0, THE ROW of ACTS is empty, what was kept is gone; "
        + "what is TOLD, THE SEED stay): how many WISHES.")
    static void lettingOfNoWishes(Due due) {
        due.same("letting()", Due.written("N").letting(), 0);
        due.same("letting()", Due.written("NH00O001").letting(), 0);
    }

    @Sentence("how many WISHES. STATE: a FAULT.")
    static void lettingOfFiveWishes(Due due) {
        due.same("letting()", Due.written(FIVE_WISHES).letting(), 5);
    }

    @Sentence("STATE: a FAULT.")
    static void lettingOfEmptyText(Due due) {
        due.same("letting()", new NightNet().letting(), -3);
    }

    @Sentence("STATE: a FAULT.")
    static void lettingOfTextNotAtItsEnd(Due due) {
        for (String text : new String[] {"NH", "NH0", "NW00011", "NO00"}) {
            due.same("letting of " + text, Due.written(text).letting(), -3);
        }
    }

    @Sentence("STATE: a FAULT.")
    static void lettingOfFault(Due due) {
        for (String text : new String[] {"X", "NX", "NH12", "NH00X", FULL_TEXT, FIVE_SQUARES + "H05"}) {
            due.same("letting of " + text, Due.written(text).letting(), -3);
        }
    }

    @Sentence("What is refused changes nothing.")
    static void lettingRefusedChangesNothing(Due due) {
        for (String text : new String[] {"", "N H07", "NH07W01012dO06", "NH07W01012dO061X"}) {
            Twins.refused(due, "letting of " + text, -3, () -> lived(text), NightNet::letting);
        }
    }

    /** One with a past in all that can be, and another text written then. */
    private static NightNet lived(String text) {
        NightNet net = Due.let("NH00H06W00012dW01011lO001O062");
        net.keep(0);
        net.hour();
        net.hang(3);
        net.keep(1);
        net.take(0);
        net.tell(0, 0, true);
        net.tell(2, 1, false);
        net.seed(-12);
        net.wipe();
        for (char letter : text.toCharArray()) {
            net.write(letter);
        }
        return net;
    }

    @Sentence("THE TEXT (that stays as it is) is THE LETTING")
    static void lettingLeavesTheText(Due due) {
        NightNet net = Due.written(Due.LONGEST);
        net.letting();
        due.same("count(0)", net.count(0), 67);
        due.same("fault()", net.fault(), -9);
        due.same("letting() again", net.letting(), 5);
        due.same("write('X')", net.write('X'), 68);
        due.same("fault()", net.fault(), 67);
    }

    @Sentence("(HOUR 0, THE ROW of ACTS is empty, what was kept is gone;")
    static void lettingIsAtHour0(Due due) {
        NightNet net = lived("NH01");
        due.same("hour", net.count(4), 1);
        net.letting();
        due.same("hour after letting", net.count(4), 0);
        due.same("place(0, 3)", net.place(0, 3), 0);
    }

    @Sentence("(HOUR 0, THE ROW of ACTS is empty, what was kept is gone;")
    static void lettingEmptiesTheRow(Due due) {
        NightNet net = lived("NH01");
        due.same("acts", net.count(6), 3);
        net.letting();
        due.same("acts after letting", net.count(6), 0);
        due.same("undo()", net.undo(), -3);
        due.same("hanging", net.count(5), 2);
    }

    @Sentence("(HOUR 0, THE ROW of ACTS is empty, what was kept is gone;")
    static void lettingLosesWhatWasKept(Due due) {
        NightNet net = lived("NH01");
        net.letting();
        due.same("again(0)", net.again(0), -3);
        due.same("again(1)", net.again(1), -3);
    }

    @Sentence("what is TOLD, THE SEED stay)")
    static void lettingLeavesWhatIsTold(Due due) {
        NightNet net = lived("NH01");
        net.letting();
        due.same("count(7)", net.count(7), 2);
        due.same("fits(1, 1)", net.fits(1, 1), 1);
        due.same("fits(5, 2)", net.fits(5, 2), 2);
    }

    @Sentence("what is TOLD, THE SEED stay)")
    static void lettingLeavesTheSeed(Due due) {
        NightNet net = lived("NH01");
        net.letting();
        due.same("seed(0)", net.seed(0), -12);
    }

    @Sentence("THE TEXT (that stays as it is) is THE LETTING")
    static void lettingForgetsTheSquaresBefore(Due due) {
        NightNet net = Due.let(FIVE_SQUARES);
        net.move(4, 0);
        Due.rewrite(net, "NH11");
        due.same("hanging", net.count(5), 2048);
        due.same("squares", net.count(3), 1);
        Due.rewrite(net, "N");
        due.same("hanging of N", net.count(5), 0);
    }

    @Sentence("THE TEXT (that stays as it is) is THE LETTING")
    static void lettingForgetsTheWishesBefore(Due due) {
        NightNet net = Due.let(FIVE_WISHES);
        net.best(5, 0);
        due.same("letting of two", Due.rewrite(net, "NW06016dW07012d"), 2);
        due.same("wish(2, 0)", net.wish(2, 0), -1);
        due.same("worth of all the old ones", net.worth(31), 0);
        due.same("best(5, 0)", net.best(5, 0), 8);
    }

    @Sentence("THE TEXT (that stays as it is) is THE LETTING")
    static void lettingForgetsWhatWasOwed(Due due) {
        NightNet net = Due.let("NO002O116");
        due.same("many(4)", net.many(4), 15);
        Due.rewrite(net, "N");
        due.same("many(4) then", net.many(4), 495);
        due.same("count(2)", net.count(2), 0);
        due.same("place(0, 2)", net.place(0, 2), 0);
        due.same("many(5) then", net.many(5), 792);
        due.same("lawful(31)", net.lawful(31), 1);
    }

    @Sentence("THE TEXT (that stays as it is) is THE LETTING")
    static void lettingForgetsWhatCouldBeGranted(Due due) {
        NightNet net = Due.let("NW00011dW01011d");
        due.same("bars(0, 2)", net.bars(0, 2), 0);
        Due.rewrite(net, "NW00011dW00011l");
        due.same("bars(0, 2) then", net.bars(0, 2), 2);
    }

    // ---- promise 6: wish

    @Sentence("UNKNOWN (there is no such PLACE, CELL, WISH, SLOT)")
    static void wishTooSmall(Due due) {
        due.same("wish(-1, 0)", Due.let(FIVE_WISHES).wish(-1, 0), -1);
    }

    @Sentence("UNKNOWN (there is no such PLACE, CELL, WISH, SLOT)")
    static void wishTooGreat(Due due) {
        due.same("wish(5, 0)", Due.let(FIVE_WISHES).wish(5, 0), -1);
        due.same("wish(1, 0) of one", Due.let("NW00011d").wish(1, 0), -1);
        due.same("wish(0, 0) of none", Due.let("N").wish(0, 0), -1);
    }

    @Sentence("numbered as they are told")
    static void wishFirstAndLast(Due due) {
        NightNet net = Due.let("NW11511dW00011lW00011lW00011lW10326l");
        int[] first = {11, 5, 1, 1, 1, 0, 32};
        int[] last = {10, 3, 2, 6, 0, 1, 8 + 16};
        for (int what = 0; what < 7; what++) {
            due.same("wish(0, " + what + ")", net.wish(0, what), first[what]);
            due.same("wish(4, " + what + ")", net.wish(4, what), last[what]);
        }
    }

    @Sentence("1 if it is GRANTED as it is (5), its HOURS as bits (6). UNKNOWN; OUTSIDE.")
    static void wishWhatTooSmall(Due due) {
        due.same("wish(0, -1)", Due.let(FIVE_WISHES).wish(0, -1), -2);
    }

    @Sentence("1 if it is GRANTED as it is (5), its HOURS as bits (6). UNKNOWN; OUTSIDE.")
    static void wishWhatTooGreat(Due due) {
        due.same("wish(0, 7)", Due.let(FIVE_WISHES).wish(0, 7), -2);
    }

    @Sentence("REFUSALS, of several the first that a call names")
    static void wishUnknownBeforeOutside(Due due) {
        due.same("wish(5, 7)", Due.let(FIVE_WISHES).wish(5, 7), -1);
        due.same("wish(-1, -1)", Due.let(FIVE_WISHES).wish(-1, -1), -1);
    }

    @Sentence("Of a WISH its PLACE (what = 0), HOUR (1), for how many (2), WORTH (3), 1 for DARK, 0 for light (4)")
    static void wishOfLeastFigures(Due due) {
        NightNet net = Due.let("NW00011l");
        int[] want = {0, 0, 1, 1, 0};
        for (int what = 0; what < want.length; what++) {
            due.same("wish(0, " + what + ")", net.wish(0, what), want[what]);
        }
    }

    @Sentence("Of a WISH its PLACE (what = 0), HOUR (1), for how many (2), WORTH (3), 1 for DARK, 0 for light (4)")
    static void wishOfGreatestFigures(Due due) {
        NightNet net = Due.let("NW11569d");
        int[] want = {11, 5, 6, 9, 1};
        for (int what = 0; what < want.length; what++) {
            due.same("wish(0, " + what + ")", net.wish(0, what), want[what]);
        }
    }

    @Sentence("on for l HOURS (1 to 6, round)")
    static void wishHoursGoRound(Due due) {
        due.same("5, 0", Due.let("NW00521d").wish(0, 6), 32 + 1);
        due.same("4, 5, 0, 1", Due.let("NW06441l").wish(0, 6), 16 + 32 + 1 + 2);
        due.same("5, not 0", Due.let("NW00511d").wish(0, 6), 32);
        due.same("all from 3 on", Due.let("NW00361d").wish(0, 6), 63);
    }

    @Sentence("if its PLACE is DARK (light) in all its HOURS")
    static void wishForDarkInAllItsHours(Due due) {
        NightNet net = Due.let("NH02H01W00431d");
        due.same("two of three", net.wish(0, 5), 0);
        net.hang(0);
        due.same("three of three", net.wish(0, 5), 1);
        net.take(2);
        due.same("the last two", net.wish(0, 5), 0);
    }

    @Sentence("if its PLACE is DARK (light) in all its HOURS")
    static void wishForLightInAllItsHours(Due due) {
        NightNet net = Due.let("NH03H05W00431l");
        due.same("dark just before and just behind", net.wish(0, 5), 1);
        net.hang(0);
        due.same("dark in the last one", net.wish(0, 5), 0);
        net.take(0);
        net.hang(2);
        due.same("dark in the first one", net.wish(0, 5), 0);
    }

    @Sentence("on for l HOURS (1 to 6, round)")
    static void wishForHoursFarRound(Due due) {
        NightNet net = Due.let("NH00H03H05W05541d");
        due.same("dark in 5, 0, 2", net.wish(0, 5), 0);
        net.hang(4);
        due.same("dark in 5, 0, 1, 2", net.wish(0, 5), 1);
        due.same("light in 4", Due.let("NH01W05551l").wish(0, 5), 1);
        due.same("dark in 3", Due.let("NH02W05551l").wish(0, 5), 0);
    }

    @Sentence("if its PLACE is DARK (light) in all its HOURS")
    static void wishForAllHours(Due due) {
        for (String five : new String[] {"NH00H01H02H03H04", "NH00H02H03H04H05", "NH01H02H03H04H05"}) {
            due.same("dark in five of six", Due.let(five + "W00061d").wish(0, 5), 0);
        }
        NightNet light = Due.let("NH06W00361l");
        due.same("light in six", light.wish(0, 5), 1);
        light.hang(5);
        due.same("light in five of six", light.wish(0, 5), 0);
    }

    @Sentence("Nothing is promised beyond the answers and state changes described above")
    static void wishChangesNothing(Due due) {
        Twins.same(due, "wish(0, 5)", () -> lived("N"), net -> net.wish(0, 5));
        Twins.refused(due, "wish(2, 0)", -1, () -> lived("N"), net -> net.wish(2, 0));
        Twins.refused(due, "wish(0, 7)", -2, () -> lived("N"), net -> net.wish(0, 7));
    }

    // ---- promise 7: place

    @Sentence("PLACES 0 to 11 (a column and 6 times its row)")
    static void placeTooSmall(Due due) {
        due.same("place(-1, 0)", new NightNet().place(-1, 0), -1);
    }

    @Sentence("PLACES 0 to 11 (a column and 6 times its row)")
    static void placeTooGreat(Due due) {
        due.same("place(12, 0)", new NightNet().place(12, 0), -1);
    }

    @Sentence("PLACES 0 to 11 (a column and 6 times its row)")
    static void placeFirstAndLast(Due due) {
        due.same("place(0, 3)", new NightNet().place(0, 3), 0);
        due.same("place(11, 3)", new NightNet().place(11, 3), 11);
    }

    @Sentence("how many HOURS of light it is OWED (2; 0: none), the CELL above it now (3). UNKNOWN; OUTSIDE.")
    static void placeWhatTooSmall(Due due) {
        due.same("place(0, -1)", new NightNet().place(0, -1), -2);
    }

    @Sentence("how many HOURS of light it is OWED (2; 0: none), the CELL above it now (3). UNKNOWN; OUTSIDE.")
    static void placeWhatTooGreat(Due due) {
        due.same("place(0, 4)", new NightNet().place(0, 4), -2);
    }

    @Sentence("REFUSALS, of several the first that a call names")
    static void placeUnknownBeforeOutside(Due due) {
        due.same("place(12, 4)", new NightNet().place(12, 4), -1);
        due.same("place(-1, -1)", new NightNet().place(-1, -1), -1);
    }

    @Sentence("A PLACE is DARK at an HOUR, if a SQUARE hangs in the CELL above it then; else it is light.")
    static void placeIsDarkNow(Due due) {
        NightNet net = Due.let("NH05H06");
        due.same("place(5, 0)", net.place(5, 0), 1);
        due.same("place(0, 0)", net.place(0, 0), 0);
        net.hour();
        due.same("place(0, 0) when 5 has come round", net.place(0, 0), 1);
        due.same("place(5, 0) then", net.place(5, 0), 0);
        due.same("place(6, 0) then", net.place(6, 0), 0);
    }

    @Sentence("HOURS at which it is DARK (1: bits)")
    static void placeDarkHours(Due due) {
        NightNet net = Due.let("NH00H01H11");
        due.same("of place 0: hours 0, 5", net.place(0, 1), 1 + 32);
        due.same("of place 11: hour 0", net.place(11, 1), 1);
        due.same("of place 6: hour 1", net.place(6, 1), 2);
        due.same("of none", new NightNet().place(6, 1), 0);
    }

    @Sentence("how many HOURS of light it is OWED (2; 0: none)")
    static void placeOwedLeastMostAndNone(Due due) {
        NightNet net = Due.let("NO001O116");
        due.same("place(0, 2)", net.place(0, 2), 1);
        due.same("place(11, 2)", net.place(11, 2), 6);
        due.same("place(1, 2)", net.place(1, 2), 0);
        due.same("place(5, 2)", net.place(5, 2), 0);
    }

    @Sentence("At HOUR t a CELL is above the PLACE of its row whose column is t more than its own (round).")
    static void placeCellAboveGoesRound(Due due) {
        NightNet net = new NightNet();
        int[] above0 = {0, 5, 4, 3, 2, 1, 0};
        int[] above6 = {6, 11, 10, 9, 8, 7, 6};
        for (int hour = 0; hour < 7; hour++) {
            due.same("place(0, 3) at " + hour, net.place(0, 3), above0[hour]);
            due.same("place(6, 3) at " + hour, net.place(6, 3), above6[hour]);
            net.hour();
        }
    }

    @Sentence("Nothing is promised beyond the answers and state changes described above")
    static void placeChangesNothing(Due due) {
        Twins.same(due, "place(0, 1)", () -> lived("N"), net -> net.place(0, 1));
        Twins.refused(due, "place(12, 0)", -1, () -> lived("N"), net -> net.place(12, 0));
        Twins.refused(due, "place(0, 4)", -2, () -> lived("N"), net -> net.place(0, 4));
    }

    // ---- promise 8: dark

    @Sentence("PLACES 0 to 11 (a column and 6 times its row)")
    static void darkPlaceTooSmall(Due due) {
        due.same("dark(-1, 0)", new NightNet().dark(-1, 0), -1);
    }

    @Sentence("PLACES 0 to 11 (a column and 6 times its row)")
    static void darkPlaceTooGreat(Due due) {
        due.same("dark(12, 0)", new NightNet().dark(12, 0), -1);
    }

    @Sentence("HOURS are 0 to 5.")
    static void darkHourTooSmall(Due due) {
        due.same("dark(0, -1)", new NightNet().dark(0, -1), -2);
    }

    @Sentence("HOURS are 0 to 5.")
    static void darkHourTooGreat(Due due) {
        due.same("dark(0, 6)", new NightNet().dark(0, 6), -2);
    }

    @Sentence("HOURS are 0 to 5.")
    static void darkFirstAndLast(Due due) {
        due.same("dark(0, 0)", Due.let("NH00").dark(0, 0), 1);
        due.same("dark(11, 5)", Due.let("NH06").dark(11, 5), 1);
    }

    @Sentence("REFUSALS, of several the first that a call names")
    static void darkUnknownBeforeOutside(Due due) {
        due.same("dark(12, 6)", new NightNet().dark(12, 6), -1);
        due.same("dark(-1, -1)", new NightNet().dark(-1, -1), -1);
    }

    @Sentence("At HOUR t a CELL is above the PLACE of its row whose column is t more than its own (round).")
    static void darkGoesRound(Due due) {
        NightNet net = Due.let("NH05H07");
        due.same("dark(0, 1): cell 5", net.dark(0, 1), 1);
        due.same("dark(4, 5): cell 5", net.dark(4, 5), 1);
        due.same("dark(6, 5): cell 7", net.dark(6, 5), 1);
        due.same("dark(0, 5): cell 1", net.dark(0, 5), 0);
        due.same("dark(6, 1): cell 11", net.dark(6, 1), 0);
    }

    @Sentence("Nothing is promised beyond the answers and state changes described above")
    static void darkChangesNothing(Due due) {
        Twins.same(due, "dark(0, 5)", () -> lived("N"), net -> net.dark(0, 5));
        Twins.refused(due, "dark(12, 0)", -1, () -> lived("N"), net -> net.dark(12, 0));
        Twins.refused(due, "dark(0, 6)", -2, () -> lived("N"), net -> net.dark(0, 6));
    }

    // ---- promise 9: read

    @Sentence("PLACES 0 to 11 (a column and 6 times its row)")
    static void readTooSmall(Due due) {
        due.same("read(-1)", new NightNet().read(-1), -1);
    }

    @Sentence("PLACES 0 to 11 (a column and 6 times its row)")
    static void readTooGreat(Due due) {
        due.same("read(12)", new NightNet().read(12), -1);
    }

    @Sentence("32 if the first one has a SQUARE, 16 the second one, .. 1 the sixth, together.")
    static void readFirstAndSixth(Due due) {
        due.same("read(0), the first", Due.let("NH00").read(0), 32);
        due.same("read(0), the sixth", Due.let("NH05").read(0), 1);
        due.same("read(11), the first", Due.let("NH11").read(11), 32);
        due.same("read(11), the sixth", Due.let("NH10").read(11), 1);
    }

    @Sentence("of its row the CELLS from that above it now on, six in all, on round (to greater columns)")
    static void readGoesRound(Due due) {
        due.same("read(5)", Due.let("NH00H05").read(5), 32 + 16);
        due.same("read(11)", Due.let("NH06H07").read(11), 16 + 8);
        NightNet net = Due.let("NH00H01");
        net.hour();
        due.same("read(0), an hour later: 5, 0, 1, ..", net.read(0), 16 + 8);
        due.same("read(1), an hour later: 0, 1, ..", net.read(1), 32 + 16);
    }

    @Sentence("of its row the CELLS from that above it now on, six in all, on round (to greater columns)")
    static void readNoneAndFive(Due due) {
        due.same("read(3) of none", new NightNet().read(3), 0);
        due.same("read(0) of five", Due.let(FIVE_SQUARES).read(0), 62);
        due.same("read(6), the other row", Due.let(FIVE_SQUARES).read(6), 0);
    }

    @Sentence("Nothing is promised beyond the answers and state changes described above")
    static void readChangesNothing(Due due) {
        Twins.same(due, "read(0)", () -> lived("N"), net -> net.read(0));
        Twins.refused(due, "read(12)", -1, () -> lived("N"), net -> net.read(12));
    }
}
