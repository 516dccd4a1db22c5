/** Promises 25 to 30: tell, untell, fits, wind, seed and storm. */
public final class ToldTest {
    private static final Due DUE = new Due("ToldTest");

    public static void main(String[] args) {
        tell();
        untell();
        fits();
        wind();
        seed();
        storm();
        gusts();
        DUE.close();
    }

    private static void tell() {
        NightNet net = new NightNet();
        DUE.same("tell", net.tell(0, 0, true), 1);
        DUE.same("tell the same", net.tell(0, 0, true), 2);
        DUE.same("tell(12, 0)", net.tell(12, 0, true), -1);
        DUE.same("tell(-1, 9)", net.tell(-1, 9, true), -1);
        DUE.same("tell(0, 6)", net.tell(0, 6, true), -2);
        DUE.same("tell(0, -1)", net.tell(0, -1, false), -2);
        DUE.same("told", net.count(7), 2);
        DUE.same("tell", net.tell(11, 5, false), 3);
        DUE.same("tell", net.tell(6, 5, true), 4);
        DUE.same("tell", net.tell(7, 0, true), 5);
        DUE.same("tell", net.tell(3, 3, true), 6);
        DUE.same("tell a seventh", net.tell(4, 0, true), -4);
        DUE.same("tell(12, 0) when full", net.tell(12, 0, true), -1);
        DUE.same("tell(0, 6) when full", net.tell(0, 6, true), -2);
        DUE.same("told when full", net.count(7), 6);
        DUE.same("the seventh is not told: 0, 7", net.fits(2, 1), 1 + 128);
    }

    private static void untell() {
        NightNet net = new NightNet();
        net.tell(0, 0, true);
        net.tell(1, 0, false);
        DUE.same("untell()", net.untell(), 2);
        DUE.same("untell() again", net.untell(), 0);
        DUE.same("told", net.count(7), 0);
        DUE.same("all fit", net.fits(2, 0), 66);
        DUE.same("tell after it", net.tell(5, 0, false), 1);
        DUE.same("only this counts", net.fits(1, 2), 32);
    }

    private static void fits(NightNet net, int n, int many, int all, int none) {
        DUE.same("fits(" + n + ", 0)", net.fits(n, 0), many);
        DUE.same("fits(" + n + ", 1)", net.fits(n, 1), all);
        DUE.same("fits(" + n + ", 2)", net.fits(n, 2), none);
    }

    private static void fits() {
        NightNet net = Due.let("NH09O006");
        fits(net, 0, 1, 0, 4095);
        fits(net, 1, 12, 0, 0);
        fits(net, 5, 792, 0, 0);
        net.tell(0, 0, true);
        fits(net, 0, 0, -9, -9);
        fits(net, 1, 1, 1, 4094);
        net.tell(0, 1, false);
        fits(net, 1, 1, 1, 4094);
        fits(net, 2, 10, 1, 32);
        fits(net, 5, 210, 1, 32);
        net.hour();
        fits(net, 2, 10, 1, 32);
        net.tell(6, 5, true);
        fits(net, 2, 1, 1 + 128, 4095 - 129);
        fits(net, 3, 9, 1 + 128, 32);
        net.tell(1, 1, false);
        fits(net, 3, 0, -9, -9);
        DUE.same("fits(-1, 0)", net.fits(-1, 0), -2);
        DUE.same("fits(6, 0)", net.fits(6, 0), -2);
        DUE.same("fits(0, -1)", net.fits(0, -1), -2);
        DUE.same("fits(0, 3)", net.fits(0, 3), -2);
    }

    private static void wind(NightNet net, int x, int above, int below) {
        DUE.same("wind(" + x + ", true)", net.wind(x, true), above);
        DUE.same("wind(" + x + ", false)", net.wind(x, false), below);
    }

    private static void wind() {
        for (String owed : new String[] {"", "O006"}) {
            NightNet net = Due.let("NH00H01W00013dW01015l" + owed);
            wind(net, 0, 3, 1);
            wind(net, 3, 18, 5);
            wind(net, 5, 4, 1);
            wind(net, 10, 5, 1);
        }
        NightNet five = Due.let("NH00H01H02H03H04W04059d");
        wind(five, 0, 9, 1);
        wind(five, 1, 531441, 100000);
        wind(five, 9, 9, 100000);
        wind(five, 10, 0, 1);
        wind(Due.let("N"), 4, 0, 1);
        wind(Due.let("NW00012l"), 4, 2, 1);
        DUE.same("wind(-1, true)", five.wind(-1, true), -2);
        DUE.same("wind(11, false)", five.wind(11, false), -2);
        DUE.same("hanging as it was", five.count(5), 31);
    }

    private static void seed() {
        NightNet net = new NightNet();
        DUE.same("seed(most)", net.seed(Long.MAX_VALUE), 0);
        DUE.same("seed(least)", net.seed(Long.MIN_VALUE), Long.MAX_VALUE);
        DUE.same("seed(-1)", net.seed(-1), Long.MIN_VALUE);
        DUE.same("seed(0)", net.seed(0), -1);
    }

    private static void storm(String text, long seed, int m, int hanging, long after) {
        NightNet net = Due.let(text);
        net.seed(seed);
        int before = net.count(5);
        DUE.same("storm(" + m + ") by " + seed, net.storm(m), hanging);
        DUE.same("THE SEED then", net.seed(seed), after);
        DUE.same("nothing else changes", net.count(5), before);
        DUE.same("no act", net.count(6), 0);
        DUE.same("the same storm again", net.storm(m), hanging);
    }

    private static void storm() {
        storm("NH00", 0, 40, 32, 2334851202895766344L);
        storm("NH00H01H02H03H04", 5, 1, 31, -3630111987296174800L);
        storm("NH00H01H02H03H04", 5, 40, 1039, 406814851751224173L);
        storm("NH00H01H02H03H04", -1, 40, 2214, -968890341617235545L);
        storm("NH00H03H06H09H11", Long.MAX_VALUE, 7, 3176, 1923724973041921048L);
        storm("NH00H03H06H09H11", Long.MIN_VALUE, 40, 295, -6888520833959009464L);
        storm("N", 3, 40, 0, -6200668237274779605L);
        NightNet net = Due.let("NH00");
        net.seed(6);
        DUE.same("storm(0)", net.storm(0), -2);
        DUE.same("storm(41)", net.storm(41), -2);
        DUE.same("storm(-1)", net.storm(-1), -2);
        DUE.same("THE SEED as it was", net.seed(0), 6);
    }

    /** One gust each: seeds that move a square of a cell by 1, by -1, by 0. */
    private static void gusts() {
        int[] seeds = {
            147, 153, 150, 13, 10, 16, 4, 1, 7, 133, 130, 127, 8, 5, 2, 52, 58, 55,
            190, 107, 193, 56, 53, 50, 29, 26, 23, 167, 173, 170, 33, 30, 36, 6, 3, 9,
        };
        int[] goals = {
            1, 5, 6, 2, 0, 7, 3, 1, 8, 4, 2, 9, 5, 3, 10, 0, 4, 11,
            7, 11, 0, 8, 6, 1, 9, 7, 2, 10, 8, 3, 11, 9, 4, 6, 10, 5,
        };
        for (int i = 0; i < seeds.length; i++) {
            NightNet net = new NightNet();
            net.hang(i / 3);
            net.seed(seeds[i]);
            DUE.same("gust by " + seeds[i], net.storm(1), 1 << goals[i]);
            net.hang(goals[i]);
            net.seed(seeds[i]);
            DUE.same("gust onto a square by " + seeds[i], net.storm(1), 1 << goals[i] | 1 << i / 3);
            net.take(i / 3);
            net.seed(seeds[i]);
            DUE.same("gust where none hangs by " + seeds[i], net.storm(1), 1 << goals[i]);
        }
    }
}
