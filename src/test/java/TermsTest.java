import java.io.IOException;

/** Each sentence of the document's terms as a whole, where nothing is at an edge. */
public final class TermsTest {
    /** Dark for cell 0 (1), for cells 0 and 1 (2); light by the cells 6, 10, 11 (4); three hours owed in row 0. */
    private static final String THREE = "NW00011dW00522dW06034lO003";
    /** Dark for the cells 0 (5), 1 (4), 2 (1). */
    private static final String STAIRS = "NW00015dW01014dW02011d";

    public static void main(String[] args) throws IOException {
        Sentences.run(TermsTest.class);
    }

    // ---- refusals, fractions

    @Sentence("REFUSALS, of several the first that a call names: UNKNOWN (there is no such PLACE, CELL, WISH, SLOT)")
    static void unknown(Due due) {
        NightNet net = Due.let(THREE);
        due.same("a place", net.read(20), -1);
        due.same("a cell", net.hang(20), -1);
        due.same("a wish", net.wish(3, 0), -1);
        due.same("a slot", net.keep(2), -1);
        due.same("and another number is not as told", net.share(3, 9, true), -1);
    }

    @Sentence("OUTSIDE (another number is not as told)")
    static void outside(Due due) {
        NightNet net = Due.let(THREE);
        due.same("a letter", net.write(300), -2);
        due.same("what of a wish", net.wish(0, 9), -2);
        due.same("what of a place", net.place(0, 9), -2);
        due.same("an hour", net.dark(0, 9), -2);
        due.same("an hour told", net.tell(0, 9, true), -2);
        due.same("a way", net.move(0, 9), -2);
        due.same("n moves", net.judge(9, 0), -2);
        due.same("a row", net.judge(1, 9999), -2);
        due.same("a hanging", net.worth(9999), -2);
        due.same("n squares", net.many(9), -2);
        due.same("tenths", net.wind(99, true), -2);
        due.same("times", net.storm(99), -2);
        due.same("what is counted", net.count(99), -2);
    }

    @Sentence("STATE (as told), FULL.")
    static void stateAndFull(Due due) {
        NightNet net = Due.let("NH00H01H02H03H04");
        due.same("none hangs there", net.take(5), -3);
        due.same("one hangs there", net.hang(4), -3);
        due.same("no act", net.undo(), -3);
        due.same("none kept", net.again(0), -3);
        due.same("five hang", net.hang(5), -4);
        net.write('X');
        due.same("a fault", net.letting(), -3);
    }

    @Sentence("What is refused changes nothing. NONE is -9.")
    static void noneIsLessThanAllRefusals(Due due) {
        NightNet net = Due.let("NH00");
        due.same("no fault", net.fault(), -9);
        due.same("all moves can be", net.judge(1, 0), -9);
        due.same("no cell in all of none", net.fits(0, 2) == -9 ? 0 : 1, 1);
        net.tell(0, 0, true);
        due.same("none fits", net.fits(0, 2), -9);
    }

    @Sentence("FRACTIONS are told above (upper = true), below (1 and more), in least terms; refusals of them are told "
        + "likewise.")
    static void fractions(Due due) {
        NightNet net = Due.let("NH00W00014dW01011d");
        due.same("4 times 7 by 10, above", net.wind(3, true), 14);
        due.same("4 times 7 by 10, below", net.wind(3, false), 5);
        due.same("4 and 3 by 2, above", net.share(0, 1, true), 7);
        due.same("4 and 3 by 2, below", net.share(0, 1, false), 2);
        due.same("nothing, above", net.wind(10, true), 0);
        due.same("nothing, below", net.wind(10, false), 1);
        for (boolean upper : new boolean[] {true, false}) {
            due.same("no such tenths", net.wind(11, upper), -2);
            due.same("no such wish", net.share(2, 1, upper), -1);
            due.same("no such squares", net.share(0, 6, upper), -2);
        }
    }

    // ---- 1 the world

    @Sentence("THE WORLD has six columns round it (0 to 5; behind 5 comes 0) and two rows: PLACES 0 to 11 (a column and 6 "
        + "times its row), and as many CELLS of THE NET; HOURS are 0 to 5.")
    static void theWorld(Due due) {
        for (int cell = 0; cell < 12; cell++) {
            NightNet net = new NightNet();
            due.same("hang(" + cell + ")", net.hang(cell), 1);
            for (int place = 0; place < 12; place++) {
                due.same("place " + place + " under cell " + cell, net.dark(place, 0), place == cell ? 1 : 0);
            }
            due.same("the next column", net.move(cell, 1), cell / 6 * 6 + (cell + 1) % 6);
        }
        due.same("no place 12", new NightNet().dark(12, 0), -1);
        due.same("no cell 12", new NightNet().hang(12), -1);
        due.same("no hour 6", new NightNet().dark(0, 6), -2);
    }

    @Sentence("At HOUR t a CELL is above the PLACE of its row whose column is t more than its own (round). A PLACE is DARK "
        + "at an HOUR, if a SQUARE hangs in the CELL above it then; else it is light.")
    static void darkHourByHour(Due due) {
        NightNet net = Due.let("NH02H10");
        for (int hour = 0; hour < 6; hour++) {
            for (int place = 0; place < 12; place++) {
                boolean isDark = place == (2 + hour) % 6 || place == 6 + (4 + hour) % 6;
                due.same("dark(" + place + ", " + hour + ")", net.dark(place, hour), isDark ? 1 : 0);
                due.same("place(" + place + ", 0)", net.place(place, 0), isDark ? 1 : 0);
            }
            net.hour();
        }
    }

    private static void fault(Due due, String text, int want) {
        due.same("fault of " + text, Due.written(text).fault(), want);
    }

    @Sentence("THE TEXT is letters (72 at most). A LETTING is a TEXT: N, then PARTS, none or more: Hcc a SQUARE hangs in "
        + "CELL cc (00 to 11; 5 at most, no two in one)")
    static void partsOfSquares(Due due) {
        for (int cell = 0; cell < 12; cell++) {
            String text = "NH" + cell / 10 + cell % 10;
            due.same("hanging of " + text, Due.let(text).count(5), 1 << cell);
        }
        due.same("hanging of five", Due.let("NH11H00H07H02H04").count(5), 2048 + 1 + 128 + 4 + 16);
        fault(due, "NH12", 3);
        fault(due, "NH11H00H07H02H04H", 16);
        fault(due, "NH03H03", 6);
        fault(due, "H03", 0);
    }

    @Sentence("Wpphlvk a WISH (5 at most, numbered as they are told) of PLACE pp (00 to 11), from HOUR h (0 to 5) on for l "
        + "HOURS (1 to 6, round), of WORTH v (1 to 9), k: d for DARK, l for light")
    static void partsOfWishes(Due due) {
        NightNet net = Due.let("NW03245dW11529l");
        int[][] want = {{3, 2, 4, 5, 1, 0, 4 + 8 + 16 + 32}, {11, 5, 2, 9, 0, 1, 32 + 1}};
        for (int wish = 0; wish < 2; wish++) {
            for (int what = 0; what < 7; what++) {
                due.same("wish(" + wish + ", " + what + ")", net.wish(wish, what), want[wish][what]);
            }
        }
        String[] faults = {"NW12", "NW006", "NW0007", "NW00010", "NW00011D"};
        for (String text : faults) {
            fault(due, text, text.length() - 1);
        }
        fault(due, "N" + "W03245d".repeat(5) + "W", 36);
    }

    @Sentence("Oppn PLACE pp is OWED n HOURS of light a day (1 to 6; 4 such at most, no PLACE twice)")
    static void partsOfWhatIsOwed(Due due) {
        NightNet net = Due.let("NO034O112O006O101");
        int[] want = {6, 0, 0, 4, 0, 0, 0, 0, 0, 0, 1, 2};
        for (int place = 0; place < 12; place++) {
            due.same("place(" + place + ", 2)", net.place(place, 2), want[place]);
        }
        fault(due, "NO12", 3);
        fault(due, "NO000", 4);
        fault(due, "NO007", 4);
        fault(due, "NO034O03", 7);
        fault(due, "NO034O112O006O101O", 17);
    }

    @Sentence("FAULT: the place (from 0 on) of the first letter by which THE TEXT can be no LETTING, whatever came behind it "
        + "(its length set aside; so the first figure of a CELL, or a PLACE, of which none with it is left: of H10H11H1 the "
        + "last 1; a sixth H, W, a fifth O by its letter); its length, if it is only not at its end; NONE: none. At first "
        + "THE LETTING is N. THE HOUR is 0 at first.")
    static void faults(Due due) {
        fault(due, "NH00XH00", 4);
        fault(due, "NH10H11H1", 8);
        fault(due, "NO101O111O1", 10);
        fault(due, "NH00W0001", 9);
        fault(due, "NH00W00011d", -9);
        due.same("squares at first", new NightNet().count(5), 0);
        due.same("hour at first", new NightNet().count(4), 0);
    }

    @Sentence("A SQUARE is HUNG in a CELL that has none (5 at most hang), TAKEN down, or MOVED to a CELL next to its own (on "
        + "in its row, by 1 or -1, round; or to the other row, by 0) that has none. AN HOUR goes by: THE HOUR is the next one.")
    static void hungTakenMoved(Due due) {
        NightNet net = Due.let("NH00");
        due.same("hung in 1", net.hang(1), 2);
        due.same("not where one hangs", net.hang(1), -3);
        due.same("not moved onto 1", net.move(0, 1), -3);
        due.same("moved round", net.move(0, -1), 5);
        due.same("moved to the other row", net.move(5, 0), 11);
        due.same("moved on", net.move(11, 1), 6);
        due.same("taken down", net.take(6), 1);
        due.same("hanging", net.count(5), 2);
        due.same("the next hour", net.hour(), 1);
        due.same("the hour", net.count(4), 1);
    }

    @Sentence("ACTS (HUNG, TAKEN, MOVED, HOURS) are a row (16 at most; of more the first one is forgotten); the last one can "
        + "be undone.")
    static void actsInARow(Due due) {
        NightNet net = new NightNet();
        net.hang(0);
        net.move(0, 1);
        net.take(1);
        for (int hour = 0; hour < 14; hour++) {
            net.hour();
        }
        due.same("acts", net.count(6), 16);
        for (int left = 15; left >= 0; left--) {
            due.same("undo()", net.undo(), left);
            due.same("hanging", net.count(5), left > 1 ? 0 : left == 1 ? 2 : 1);
            due.same("hour", net.count(4), left > 2 ? (left - 2) % 6 : 0);
        }
        due.same("what is forgotten stays", net.undo(), -3);
    }

    // ---- 2 hangings

    @Sentence("In what follows nothing is changed. A HANGING is a set of CELLS (bits, 5 at most). By it a WISH is GRANTED, if "
        + "its PLACE is DARK (light) in all its HOURS. It is LAWFUL, if all that is OWED is had. Its WORTH: of all WISHES that "
        + "it GRANTS.")
    static void hangings(Due due) {
        NightNet net = Due.let(THREE);
        int[][] worths = {{0, 4}, {1, 5}, {2, 4}, {3, 7}, {3 + 64, 3}, {3 + 128, 7}, {15, 7}, {1024, 0}};
        for (int[] one : worths) {
            due.same("worth(" + one[0] + ")", net.worth(one[0]), one[1]);
        }
        due.same("three in row 0", net.lawful(7), 1);
        due.same("four in row 0", net.lawful(15), 0);
        due.same("six", net.worth(63), -2);
        due.same("nothing is hung", net.count(5), 0);
    }

    @Sentence("BEST for n SQUARES (0 to 5): of all LAWFUL HANGINGS of n or fewer the one of most WORTH; of like ones that of "
        + "fewest SQUARES, then the least by bits. NONE: there is none.")
    static void best(Due due) {
        NightNet net = Due.let(THREE);
        int[] cells = {0, 1, 3, 3, 3, 3};
        for (int n = 0; n < 6; n++) {
            due.same("best(" + n + ", 1)", net.best(n, 1), cells[n]);
        }
        due.same("of like ones", Due.let("NW08012dW05012dW07012d").best(2, 1), 32 + 128);
        due.same("no squares are lawful whatever is owed", Due.let(THREE + "O066O056").best(5, 0), 4);
    }

    @Sentence("A WISH BARS another one for n SQUARES, if no LAWFUL HANGING of n or fewer GRANTS both, but for each of the two "
        + "there is one that does.")
    static void bars(Due due) {
        NightNet net = Due.let(STAIRS + "W01011lW00061d");
        due.same("for one square: the other darks", net.bars(0, 1), 2 + 4);
        due.same("for one square: dark and light of one cell", net.bars(1, 1), 1 + 4 + 8);
        due.same("for two squares", net.bars(0, 2), 0);
        due.same("for two squares: dark and light of one cell", net.bars(1, 2), 8);
        due.same("one that none grants", net.bars(4, 5), 0);
    }

    @Sentence("THE LOSS of a CELL with a SQUARE: by how much WORTH of THE HANGING as it is is more with it than without "
        + "(LAWFUL or not; less than 0, if it is less), and 1000.")
    static void loss(Due due) {
        for (String owed : new String[] {"", "O006"}) {
            NightNet net = Due.let("NH00H01H09W00522dW00013l" + owed);
            due.same("two more, where light is barred all the same", net.loss(1), 1002);
            due.same("three less, two more", net.loss(0), 999);
            due.same("nothing", net.loss(9), 1000);
        }
    }

    @Sentence("FLOW to another HANGING of as many SQUARES: the fewest single MOVES (each to a CELL next to it), if it does not "
        + "matter which SQUARE is where.")
    static void flow(Due due) {
        NightNet net = Due.let("NH00H01");
        int[][] ways = {{3, 0}, {6, 2}, {5, 1}, {33, 2}, {34, 1}, {64 + 128, 2}, {8 + 512, 6}, {16 + 32, 4}};
        for (int[] way : ways) {
            due.same("flow(" + way[0] + ")", net.flow(way[0]), way[1]);
        }
    }

    @Sentence("DUE of a WISH for n SQUARES: the most WORTH that the others could have, if it were not there (by LAWFUL HANGINGS "
        + "of n or fewer), less what they have by BEST. (0, if BEST does not GRANT it; NONE: there is no LAWFUL one.)")
    static void due(Due due) {
        NightNet net = Due.let(STAIRS);
        int[][] want = {{0, 0, 0}, {4, 0, 0}, {1, 1, 0}, {0, 0, 0}};
        for (int n = 0; n < 4; n++) {
            for (int wish = 0; wish < 3; wish++) {
                due.same("due(" + wish + ", " + n + ")", net.due(wish, n), want[n][wish]);
            }
        }
        due.same("no squares are lawful whatever is owed", Due.let(STAIRS + "O066O056").due(0, 5), 0);
    }

    @Sentence("SHARE of a WISH for n SQUARES: if WISHES come one by one, in each order as likely, by how much in the mean the "
        + "most WORTH that those that have come can have (by LAWFUL HANGINGS of n or fewer; those that have not come count for "
        + "nothing) is more when it has come than it was: a FRACTION. (0 by 1, if there is no LAWFUL one.)")
    static void share(Due due) {
        NightNet net = Due.let(STAIRS);
        int[] above = {17, 11, 1};
        int[] below = {6, 6, 3};
        int[] whole = {5, 4, 1};
        for (int wish = 0; wish < 3; wish++) {
            due.same("share of " + wish + " for one, above", net.share(wish, 1, true), above[wish]);
            due.same("share of " + wish + " for one, below", net.share(wish, 1, false), below[wish]);
            due.same("share of " + wish + " for three, above", net.share(wish, 3, true), whole[wish]);
            due.same("share of " + wish + " for three, below", net.share(wish, 3, false), 1);
        }
        NightNet owed = Due.let(STAIRS + "O006");
        due.same("where no square may hang, above", owed.share(0, 5, true), 0);
        due.same("where no square may hang, below", owed.share(0, 5, false), 1);
    }

    // ---- 3 told, winds, slots

    @Sentence("TOLD: that a PLACE was DARK, or light, at an HOUR: 6 such at most, none at first. FITS for n SQUARES: how many "
        + "HANGINGS of just n are so (LAWFUL or not); CELLS in which one hangs in all of these, in none of them (bits).")
    static void toldAndFits(Due due) {
        NightNet net = Due.let("NO006");
        due.same("told at first", net.count(7), 0);
        due.same("of two at first", net.fits(2, 0), 66);
        net.tell(0, 0, true);
        net.tell(2, 1, true);
        net.tell(8, 2, false);
        due.same("told", net.count(7), 3);
        int[][] want = {{0, -9, -9}, {0, -9, -9}, {1, 3, 4095 - 3}, {9, 3, 64}, {36, 3, 64}, {84, 3, 64}};
        for (int n = 0; n < 6; n++) {
            for (int what = 0; what < 3; what++) {
                due.same("fits(" + n + ", " + what + ")", net.fits(n, what), want[n][what]);
            }
        }
    }

    @Sentence("READ from a PLACE: of its row the CELLS from that above it now on, six in all, on round (to greater columns): 32 "
        + "if the first one has a SQUARE, 16 the second one, .. 1 the sixth, together.")
    static void read(Due due) {
        NightNet net = Due.let("NH00H02H11");
        due.same("0, 1, 2, ..", net.read(0), 32 + 8);
        due.same("6, .. 11", net.read(6), 1);
        net.hour();
        due.same("5, 0, 1, 2, ..", net.read(0), 16 + 4);
        due.same("11, 6, ..", net.read(6), 32);
        due.same("2, 3, 4, 5, 0, 1", net.read(3), 32 + 2);
    }

    @Sentence("WIND: each SQUARE is gone by x tenths (0 to 10), by itself: the mean WORTH of what is left (LAWFUL or not): a "
        + "FRACTION.")
    static void wind(Due due) {
        NightNet net = Due.let("NH00H01W00524dW06013lO006");
        due.same("4 times 8 by 10 twice, and 3, above", net.wind(2, true), 139);
        due.same("4 times 8 by 10 twice, and 3, below", net.wind(2, false), 25);
        due.same("no wind", net.wind(0, true), 7);
        due.same("all gone", net.wind(10, true), 3);
    }

    @Sentence("A STORM by THE SEED: m times (1 to 40) x (THE SEED, a long; 0 at first) becomes x times 6364136223846793005 and "
        + "1442695040888963407 (64 bits, wrapping); of its upper 31 bits what is left by 12 is a CELL, of them by 12 (cut) what "
        + "is left by 3 how: if a SQUARE hangs there, it is MOVED by 1, by -1, by 0 (0, 1, 2), if it can be. THE HANGING then, "
        + "as bits. (Nothing changes but THE SEED.)")
    static void storm(Due due) {
        NightNet net = Due.let("NH00H04H05H07H10");
        net.seed(48);
        due.same("10 by -1", net.storm(1), 1 + 16 + 32 + 128 + 512);
        due.same("hanging", net.count(5), 1 + 16 + 32 + 128 + 1024);
        net.seed(48);
        // 10 by -1, 4 by 0 (to 10), 7 by 0 (to 1), 2 has none, 9 by -1 (to 8), 1 by 1 (to 2).
        due.same("six times", net.storm(6), 1 + 4 + 32 + 256 + 1024);
        due.same("the seed", net.seed(0), -6195545462956102474L);
        due.same("hanging", net.count(5), 1 + 16 + 32 + 128 + 1024);
    }

    @Sentence("SLOTS 0 to 1 keep THE HANGING, THE HOUR (THE ROW of ACTS is empty when one goes on).")
    static void slots(Due due) {
        NightNet net = Due.let("NH03");
        net.hour();
        net.keep(0);
        net.hang(4);
        net.hour();
        net.keep(1);
        net.take(3);
        due.same("acts", net.count(6), 4);
        due.same("gone on from 0", net.again(0), 1);
        due.same("hanging", net.count(5), 8);
        due.same("hour", net.count(4), 1);
        due.same("acts", net.count(6), 0);
        due.same("gone on from 1", net.again(1), 2);
        due.same("hanging", net.count(5), 8 + 16);
        due.same("hour", net.count(4), 2);
    }
}
