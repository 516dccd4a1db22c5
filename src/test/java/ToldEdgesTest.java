import java.io.IOException;

/** The edges that the document names in promises 25 to 30 and in the terms that they use. */
public final class ToldEdgesTest {
    public static void main(String[] args) throws IOException {
        Sentences.run(ToldEdgesTest.class);
    }

    /** One of which six things are told: that squares hung in the cells 0 to 4, and none in 11. */
    private static NightNet full() {
        NightNet net = Due.let("NH00H03W00012d");
        net.hour();
        net.keep(0);
        for (int place = 0; place < 5; place++) {
            net.tell(place, 0, true);
        }
        net.tell(11, 0, false);
        return net;
    }

    // ---- promise 25: tell

    @Sentence("UNKNOWN (there is no such PLACE, CELL, WISH, SLOT)")
    static void tellPlaceTooSmall(Due due) {
        due.same("tell(-1, 0, true)", new NightNet().tell(-1, 0, true), -1);
    }

    @Sentence("UNKNOWN (there is no such PLACE, CELL, WISH, SLOT)")
    static void tellPlaceTooGreat(Due due) {
        due.same("tell(12, 0, true)", new NightNet().tell(12, 0, true), -1);
    }

    @Sentence("HOURS are 0 to 5.")
    static void tellHourTooSmall(Due due) {
        due.same("tell(0, -1, true)", new NightNet().tell(0, -1, true), -2);
    }

    @Sentence("HOURS are 0 to 5.")
    static void tellHourTooGreat(Due due) {
        due.same("tell(0, 6, true)", new NightNet().tell(0, 6, true), -2);
    }

    @Sentence("that a PLACE was DARK, or light, at an HOUR")
    static void tellFirstAndLast(Due due) {
        NightNet net = new NightNet();
        due.same("tell(0, 0, true)", net.tell(0, 0, true), 1);
        due.same("tell(11, 5, false): cell 6", net.tell(11, 5, false), 2);
        due.same("fits(5, 1)", net.fits(5, 1), 1);
        due.same("fits(5, 2)", net.fits(5, 2), 64);
    }

    @Sentence("At HOUR t a CELL is above the PLACE of its row whose column is t more than its own (round).")
    static void tellGoesRound(Due due) {
        NightNet net = new NightNet();
        net.tell(0, 1, true);
        net.tell(6, 5, true);
        due.same("cells 5, 7", net.fits(2, 1), 32 + 128);
        net.untell();
        net.hour();
        net.tell(0, 0, true);
        due.same("whatever the hour is", net.fits(1, 1), 1);
    }

    @Sentence("6 such at most, none at first.")
    static void tellNoneAtFirst(Due due) {
        due.same("count(7)", new NightNet().count(7), 0);
        due.same("tell", new NightNet().tell(0, 0, true), 1);
        due.same("fits(1, 0)", new NightNet().fits(1, 0), 12);
    }

    @Sentence("6 such at most, none at first.")
    static void tellTheSixth(Due due) {
        NightNet net = new NightNet();
        for (int told = 1; told <= 6; told++) {
            due.same("tell", net.tell(told, 0, false), told);
        }
        due.same("count(7)", net.count(7), 6);
        due.same("the sixth counts", net.fits(1, 2), 126);
    }

    @Sentence("UNKNOWN; OUTSIDE: hour; FULL: 6.")
    static void tellOneMore(Due due) {
        due.same("tell a seventh", full().tell(5, 0, true), -4);
        due.same("tell again what was told", full().tell(0, 0, true), -4);
    }

    @Sentence("REFUSALS, of several the first that a call names")
    static void tellUnknownBeforeOutside(Due due) {
        due.same("tell(12, 6, true)", new NightNet().tell(12, 6, true), -1);
        due.same("tell(-1, -1, true)", new NightNet().tell(-1, -1, true), -1);
    }

    @Sentence("REFUSALS, of several the first that a call names")
    static void tellUnknownBeforeFull(Due due) {
        due.same("tell(12, 0, true) when full", full().tell(12, 0, true), -1);
    }

    @Sentence("REFUSALS, of several the first that a call names")
    static void tellOutsideBeforeFull(Due due) {
        due.same("tell(0, 6, true) when full", full().tell(0, 6, true), -2);
    }

    @Sentence("What is refused changes nothing.")
    static void tellUnknownChangesNothing(Due due) {
        Twins.refused(due, "tell(12, 0, true)", -1, () -> Due.let("NH03"), net -> net.tell(12, 0, true));
        Twins.refused(due, "tell(-1, 0, false)", -1, () -> Due.let("NH03"), net -> net.tell(-1, 0, false));
    }

    @Sentence("What is refused changes nothing.")
    static void tellOutsideChangesNothing(Due due) {
        Twins.refused(due, "tell(0, 6, true)", -2, () -> Due.let("NH03"), net -> net.tell(0, 6, true));
        Twins.refused(due, "tell(0, -1, false)", -2, () -> Due.let("NH03"), net -> net.tell(0, -1, false));
    }

    @Sentence("What is refused changes nothing.")
    static void tellFullChangesNothing(Due due) {
        Twins.refused(due, "tell when full", -4, ToldEdgesTest::full, net -> net.tell(11, 0, true));
        Twins.refused(due, "tell when full", -4, ToldEdgesTest::full, net -> net.tell(0, 0, false));
    }

    // ---- promise 26: untell

    @Sentence("Nothing is TOLD: how many there were.")
    static void untellOfNone(Due due) {
        due.same("untell()", new NightNet().untell(), 0);
    }

    @Sentence("Nothing is TOLD: how many there were.")
    static void untellOfSix(Due due) {
        NightNet net = full();
        due.same("untell()", net.untell(), 6);
        due.same("untell() again", net.untell(), 0);
        due.same("count(7)", net.count(7), 0);
        due.same("all fit", net.fits(1, 0), 12);
        due.same("none is in all", net.fits(5, 1), 0);
        due.same("none is in none", net.fits(5, 2), 0);
        due.same("tell", net.tell(0, 0, true), 1);
    }

    // ---- promise 27: fits

    private static void fits(Due due, NightNet net, int n, int many, int inAll, int inNone) {
        due.same("fits(" + n + ", 0)", net.fits(n, 0), many);
        due.same("fits(" + n + ", 1)", net.fits(n, 1), inAll);
        due.same("fits(" + n + ", 2)", net.fits(n, 2), inNone);
    }

    @Sentence("in none (2), as bits; NONE (of 1, 2): there is none. OUTSIDE: n, what.")
    static void fitsNTooSmall(Due due) {
        due.same("fits(-1, 0)", new NightNet().fits(-1, 0), -2);
    }

    @Sentence("in none (2), as bits; NONE (of 1, 2): there is none. OUTSIDE: n, what.")
    static void fitsNTooGreat(Due due) {
        due.same("fits(6, 0)", new NightNet().fits(6, 0), -2);
    }

    @Sentence("in none (2), as bits; NONE (of 1, 2): there is none. OUTSIDE: n, what.")
    static void fitsWhatTooSmall(Due due) {
        due.same("fits(0, -1)", new NightNet().fits(0, -1), -2);
    }

    @Sentence("in none (2), as bits; NONE (of 1, 2): there is none. OUTSIDE: n, what.")
    static void fitsWhatTooGreat(Due due) {
        due.same("fits(0, 3)", new NightNet().fits(0, 3), -2);
    }

    @Sentence("FITS for n SQUARES: how many HANGINGS of just n are so (LAWFUL or not)")
    static void fitsOfNoSquares(Due due) {
        fits(due, new NightNet(), 0, 1, 0, 4095);
    }

    @Sentence("FITS for n SQUARES: how many HANGINGS of just n are so (LAWFUL or not)")
    static void fitsOfFiveSquares(Due due) {
        fits(due, new NightNet(), 5, 792, 0, 0);
        fits(due, full(), 5, 1, 31, 4095 - 31);
    }

    @Sentence("NONE (of 1, 2): there is none.")
    static void fitsNoneOfTooFewSquares(Due due) {
        fits(due, full(), 4, 0, -9, -9);
        fits(due, full(), 0, 0, -9, -9);
    }

    @Sentence("NONE (of 1, 2): there is none.")
    static void fitsNoneOfSixDarks(Due due) {
        NightNet net = new NightNet();
        for (int place = 0; place < 6; place++) {
            net.tell(place, 0, true);
        }
        fits(due, net, 5, 0, -9, -9);
    }

    @Sentence("NONE (of 1, 2): there is none.")
    static void fitsNoneOfWhatIsAgainstItself(Due due) {
        NightNet net = new NightNet();
        net.tell(0, 0, true);
        net.tell(0, 0, false);
        fits(due, net, 1, 0, -9, -9);
        NightNet otherHour = new NightNet();
        otherHour.tell(0, 0, true);
        otherHour.tell(5, 5, false);
        fits(due, otherHour, 5, 0, -9, -9);
    }

    @Sentence("CELLS in which one hangs in all of these, in none of them (bits).")
    static void fitsInAllAndInNone(Due due) {
        NightNet net = new NightNet();
        for (int place = 0; place < 6; place++) {
            net.tell(place, 0, false);
        }
        fits(due, net, 5, 6, 0, 63);
        fits(due, net, 1, 6, 0, 63);
        fits(due, net, 0, 1, 0, 4095);
    }

    @Sentence("how many HANGINGS of just n are so (LAWFUL or not)")
    static void fitsOfWhatIsNotLawful(Due due) {
        NightNet net = Due.let("NO006");
        net.tell(0, 0, true);
        fits(due, net, 1, 1, 1, 4094);
    }

    @Sentence("In what follows nothing is changed.")
    static void fitsChangesNothing(Due due) {
        Twins.same(due, "fits(5, 1)", ToldEdgesTest::full, net -> net.fits(5, 1));
        Twins.refused(due, "fits(6, 0)", -2, ToldEdgesTest::full, net -> net.fits(6, 0));
    }

    // ---- promise 28: wind

    private static void wind(Due due, String text, int x, int above, int below) {
        NightNet net = Due.let(text);
        due.same("wind(" + x + ", true) of " + text, net.wind(x, true), above);
        due.same("wind(" + x + ", false) of " + text, net.wind(x, false), below);
    }

    @Sentence("each SQUARE is gone by x tenths (0 to 10)")
    static void windTooWeak(Due due) {
        due.same("wind(-1, true)", new NightNet().wind(-1, true), -2);
    }

    @Sentence("each SQUARE is gone by x tenths (0 to 10)")
    static void windTooStrong(Due due) {
        due.same("wind(11, true)", new NightNet().wind(11, true), -2);
    }

    @Sentence("refusals of them are told likewise.")
    static void windRefusedBelow(Due due) {
        due.same("wind(-1, false)", new NightNet().wind(-1, false), -2);
        due.same("wind(11, false)", new NightNet().wind(11, false), -2);
    }

    @Sentence("each SQUARE is gone by x tenths (0 to 10)")
    static void windOf0(Due due) {
        wind(due, "NH00W00017d", 0, 7, 1);
        wind(due, "NH00W00017l", 0, 0, 1);
        wind(due, "NH00H01H02H03H04W00259d", 0, 9, 1);
    }

    @Sentence("each SQUARE is gone by x tenths (0 to 10)")
    static void windOf10(Due due) {
        wind(due, "NH00W00017d", 10, 0, 1);
        wind(due, "NH00W00017l", 10, 7, 1);
        wind(due, "NH00H01H02H03H04W00259d", 10, 0, 1);
    }

    @Sentence("each SQUARE is gone by x tenths (0 to 10)")
    static void windOf1And9(Due due) {
        wind(due, "NH00W00017d", 1, 63, 10);
        wind(due, "NH00W00017d", 9, 7, 10);
        wind(due, "NH00W00017l", 1, 7, 10);
        wind(due, "NH00W00017l", 9, 63, 10);
    }

    @Sentence("the mean WORTH of what is left (LAWFUL or not): a FRACTION.")
    static void windOnNoSquares(Due due) {
        wind(due, "NW00017l", 3, 7, 1);
        wind(due, "NW00017d", 3, 0, 1);
        wind(due, "N", 10, 0, 1);
    }

    @Sentence("by itself: the mean WORTH of what is left")
    static void windOnFiveSquares(Due due) {
        wind(due, "NH00H01H02H03H04W00251d", 1, 59049, 100000);
        wind(due, "NH00H01H02H03H04W00251d", 9, 1, 100000);
        wind(due, "NH00H01H02H03H04W00251l", 1, 1, 100000);
        wind(due, "NH00H01H02H03H04W00251l", 9, 59049, 100000);
    }

    @Sentence("below (1 and more), in least terms")
    static void windInLeastTerms(Due due) {
        wind(due, "NH00W00012d", 5, 1, 1);
        wind(due, "NH00W00013d", 5, 3, 2);
        wind(due, "NH00H01W00013d", 5, 3, 2);
        wind(due, "NH00H01W00521d", 5, 1, 4);
        wind(due, "NH00H01W00521d", 2, 16, 25);
    }

    @Sentence("the mean WORTH of what is left (LAWFUL or not)")
    static void windOnWhatIsNotLawful(Due due) {
        wind(due, "NH00H01W00017dO006", 1, 63, 10);
    }

    @Sentence("In what follows nothing is changed.")
    static void windChangesNothing(Due due) {
        Twins.same(due, "wind(10, true)", ToldEdgesTest::full, net -> net.wind(10, true));
        Twins.refused(due, "wind(11, true)", -2, ToldEdgesTest::full, net -> net.wind(11, true));
    }

    // ---- promise 29: seed

    @Sentence("(THE SEED, a long; 0 at first)")
    static void seedAtFirst(Due due) {
        due.same("seed(5)", new NightNet().seed(5), 0);
    }

    @Sentence("THE SEED is v: what it was.")
    static void seedLeastAndGreatest(Due due) {
        NightNet net = new NightNet();
        net.seed(Long.MIN_VALUE);
        due.same("seed(most), it was the least", net.seed(Long.MAX_VALUE), Long.MIN_VALUE);
        due.same("seed(-1), it was the greatest", net.seed(-1), Long.MAX_VALUE);
        due.same("seed(0), it was -1", net.seed(0), -1);
    }

    // ---- promise 30: storm

    private static void storm(Due due, String text, long seed, int m, int hanging, long left) {
        NightNet net = Due.let(text);
        net.seed(seed);
        due.same("storm(" + m + ") by " + seed + " of " + text, net.storm(m), hanging);
        due.same("seed left by " + seed, net.seed(0), left);
    }

    @Sentence("A STORM by THE SEED: m times (1 to 40)")
    static void stormTooShort(Due due) {
        due.same("storm(0)", new NightNet().storm(0), -2);
        due.same("storm(-1)", new NightNet().storm(-1), -2);
    }

    @Sentence("A STORM by THE SEED: m times (1 to 40)")
    static void stormTooLong(Due due) {
        due.same("storm(41)", new NightNet().storm(41), -2);
        due.same("storm(most)", new NightNet().storm(Integer.MAX_VALUE), -2);
    }

    @Sentence("A STORM by THE SEED: m times (1 to 40)")
    static void stormOfOne(Due due) {
        storm(due, "NH00H04H05H07H10", 2026, 1, 1201, 908577031515011953L);
        storm(due, "N", 0, 1, 0, 1442695040888963407L);
    }

    @Sentence("A STORM by THE SEED: m times (1 to 40)")
    static void stormOfForty(Due due) {
        storm(due, "NH00H04H05H07H10", 2026, 40, 410, -452878370329643150L);
        storm(due, "NH00H01H02H03H04", -7, 40, 3148, -2344595534985695263L);
        storm(due, "NH00H01H02H03H04", -7, 39, 2140, -1175291098882370534L);
    }

    @Sentence("x (THE SEED, a long; 0 at first) becomes x times 6364136223846793005 and 1442695040888963407 (64 bits, wrapping)")
    static void stormSeedWraps(Due due) {
        storm(due, "NH00", Long.MAX_VALUE, 1, 32, 4301930853896946210L);
        storm(due, "NH03", Long.MIN_VALUE, 1, 512, -7780676995965812401L);
        storm(due, "NH04", -1, 1, 32, -4921441182957829598L);
        storm(due, "NH11", 0, 1, 32, 1442695040888963407L);
    }

    @Sentence("of its upper 31 bits what is left by 12 is a CELL")
    static void stormOfSeedBelow0(Due due) {
        storm(due, "NH05", 324, 1, 1, -2612504688219883965L);
        storm(due, "NH00", 153, 1, 32, -2521898617157942476L);
        storm(due, "NH09", 170, 1, 8, -5012047254019771087L);
    }

    @Sentence("it is MOVED by 1, by -1, by 0 (0, 1, 2), if it can be.")
    static void stormGoesRound(Due due) {
        storm(due, "NH05", 52, 1, 1, 336385354150270579L);
        storm(due, "NH00", 224, 1, 32, 6609915506935122095L);
        storm(due, "NH11", 6, 1, 64, 2734024236550618205L);
        storm(due, "NH06", 267, 1, 2048, 3566612026703947070L);
    }

    @Sentence("it is MOVED by 1, by -1, by 0 (0, 1, 2), if it can be.")
    static void stormToTheOtherRow(Due due) {
        storm(due, "NH03", 207, 1, 512, 9100064143796950706L);
        storm(due, "NH09", 250, 1, 8, 6056760663565775681L);
    }

    @Sentence("if a SQUARE hangs there")
    static void stormWhereNoneHangs(Due due) {
        storm(due, "NH01", 227, 1, 2, 7255580104765949494L);
        storm(due, "N", 227, 1, 0, 7255580104765949494L);
    }

    @Sentence("it is MOVED by 1, by -1, by 0 (0, 1, 2), if it can be.")
    static void stormOntoAnother(Due due) {
        storm(due, "NH00H01", 227, 1, 3, 7255580104765949494L);
        storm(due, "NH00H05", 224, 1, 33, 6609915506935122095L);
        storm(due, "NH03H09", 207, 1, 8 + 512, 9100064143796950706L);
    }

    @Sentence("(Nothing changes but THE SEED.)")
    static void stormLeavesAllElse(Due due) {
        NightNet net = Due.let("NH00");
        net.hour();
        net.keep(0);
        net.seed(227);
        due.same("storm(1)", net.storm(1), 2);
        due.same("hanging", net.count(5), 1);
        due.same("hour", net.count(4), 1);
        due.same("acts", net.count(6), 1);
        due.same("again(0)", net.again(0), 1);
        due.same("hanging", net.count(5), 1);
        due.same("the seed", net.seed(227), 7255580104765949494L);
        due.same("storm(1) once more", net.storm(1), 2);
    }

    @Sentence("What is refused changes nothing.")
    static void stormRefusedChangesNothing(Due due) {
        Twins.refused(due, "storm(0)", -2, ToldEdgesTest::full, net -> net.storm(0));
        Twins.refused(due, "storm(41)", -2, ToldEdgesTest::full, net -> net.storm(41));
        Twins.refused(due, "storm(-1)", -2, ToldEdgesTest::full, net -> net.storm(-1));
    }
}
