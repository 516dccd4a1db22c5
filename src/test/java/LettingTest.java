/** Promises 1 to 9: a new object, the text, its faults, the letting and what is seen of it. */
public final class LettingTest {
    private static final Due DUE = new Due("LettingTest");

    public static void main(String[] args) {
        constants();
        newObject();
        write();
        wipe();
        faultOfHeadAndParts();
        faultOfSquares();
        faultOfWishes();
        faultOfOwed();
        letting();
        lettingLeavesAndClears();
        lettingRefused();
        wish();
        place();
        dark();
        read();
        DUE.close();
    }

    private static void constants() {
        DUE.same("UNKNOWN", NightNet.UNKNOWN, -1);
        DUE.same("OUTSIDE", NightNet.OUTSIDE, -2);
        DUE.same("STATE", NightNet.STATE, -3);
        DUE.same("FULL", NightNet.FULL, -4);
        DUE.same("NONE", NightNet.NONE, -9);
    }

    private static void newObject() {
        NightNet net = new NightNet();
        for (int what = 0; what <= 8; what++) {
            DUE.same("new: count(" + what + ")", net.count(what), 0);
        }
        DUE.same("new: fault()", net.fault(), 0);
        DUE.same("new: wish(0, 0)", net.wish(0, 0), -1);
        for (int place = 0; place < 12; place++) {
            DUE.same("new: place dark", net.place(place, 0), 0);
            DUE.same("new: place hours", net.place(place, 1), 0);
            DUE.same("new: place owed", net.place(place, 2), 0);
            DUE.same("new: place cell", net.place(place, 3), place);
        }
        DUE.same("new: undo()", net.undo(), -3);
        DUE.same("new: again(0)", net.again(0), -3);
        DUE.same("new: again(1)", net.again(1), -3);
        DUE.same("new: untell()", net.untell(), 0);
        DUE.same("new: seed(9)", net.seed(9), 0);
        DUE.same("new: best(5, 0)", net.best(5, 0), 0);
        DUE.same("new: best(5, 1)", net.best(5, 1), 0);
        DUE.same("new: many(5)", net.many(5), 792);
    }

    private static void write() {
        NightNet net = new NightNet();
        DUE.same("write(-1)", net.write(-1), -2);
        DUE.same("write(256)", net.write(256), -2);
        DUE.same("write(least)", net.write(Integer.MIN_VALUE), -2);
        DUE.same("write(most)", net.write(Integer.MAX_VALUE), -2);
        DUE.same("write(0)", net.write(0), 1);
        DUE.same("write(255)", net.write(255), 2);
        for (int length = 3; length <= 72; length++) {
            DUE.same("write(78)", net.write(78), length);
        }
        DUE.same("write when full", net.write(78), -4);
        DUE.same("write(256) when full", net.write(256), -2);
        DUE.same("length when full", net.count(0), 72);
        DUE.same("wipe when full", net.wipe(), 72);
        DUE.same("write after wipe", net.write(78), 1);
        DUE.same("fault after wipe", net.fault(), -9);
    }

    private static void wipe() {
        NightNet net = Due.let("NH03W00011d");
        DUE.same("wipe()", net.wipe(), 11);
        DUE.same("wipe() again", net.wipe(), 0);
        DUE.same("letters after wipe", net.count(0), 0);
        DUE.same("wishes after wipe", net.count(1), 1);
        DUE.same("hanging after wipe", net.count(5), 8);
        DUE.same("fault after wipe", net.fault(), 0);
    }

    private static void fault(String text, int want) {
        NightNet net = Due.written(text);
        DUE.same("fault of " + text, net.fault(), want);
        DUE.same("fault told twice of " + text, net.fault(), want);
    }

    private static void faultOfHeadAndParts() {
        fault("", 0);
        fault("N", -9);
        fault("n", 0);
        fault("H00", 0);
        fault("XH99", 0);
        fault("\0", 0);
        fault("NN", 1);
        fault("N ", 1);
        fault("Nh00", 1);
        fault("N\u00ff", 1);
        fault("NH00N", 4);
        fault("NH00X", 4);
        fault("NH00H00W", 6);
        fault(Due.LONGEST, -9);
        for (int length = 1; length < Due.LONGEST.length(); length++) {
            boolean ends = "NHWO".indexOf(Due.LONGEST.charAt(length)) >= 0;
            fault(Due.LONGEST.substring(0, length), ends ? -9 : length);
        }
        for (String more : new String[] {"N", "H", "W", "O", "0", "OOOOO"}) {
            fault(Due.LONGEST + more, 67);
        }
    }

    private static void faultOfSquares() {
        fault("NH", 2);
        fault("NH0", 3);
        fault("NH1", 3);
        fault("NH00", -9);
        fault("NH09", -9);
        fault("NH10", -9);
        fault("NH11", -9);
        fault("NH2", 2);
        fault("NH/", 2);
        fault("NH:", 2);
        fault("NHH", 2);
        fault("NH12", 3);
        fault("NH1/", 3);
        fault("NH0/", 3);
        fault("NH0:", 3);
        fault("NH0H", 3);
        fault("NH00H00", 6);
        fault("NH00H01H01", 9);
        fault("NH11H11", 6);
        fault("NH10H1", 6);
        fault("NH10H10", 6);
        fault("NH10H11H1", 8);
        fault("NH11H10H1", 8);
        fault("NH11H10H0", 9);
        fault("NH05H10H11H1", 11);
        fault("NH00H01H02H03H04", -9);
        fault("NH00H01H02H03H04H", 16);
        fault("NH00H01H02H03H04H05", 16);
    }

    private static void faultOfWishes() {
        fault("NW", 2);
        fault("NW2", 2);
        fault("NW0", 3);
        fault("NW12", 3);
        fault("NW0:", 3);
        fault("NW11", 4);
        fault("NW11/", 4);
        fault("NW116", 4);
        fault("NW115", 5);
        fault("NW0000", 5);
        fault("NW0007", 5);
        fault("NW0001", 6);
        fault("NW00060", 6);
        fault("NW0006:", 6);
        fault("NW00069", 7);
        fault("NW00069D", 7);
        fault("NW00069L", 7);
        fault("NW000690", 7);
        fault("NW00069d", -9);
        fault("NW00011l", -9);
        fault("NW00011dd", 8);
        fault("NW00011dW00011d", -9);
        String four = "NW00011dW00011dW10011dW11011d";
        fault(four, -9);
        fault(four + "W11011l", -9);
        fault(four + "W11011lW", 36);
        fault(four + "W11011lH00", -9);
    }

    private static void faultOfOwed() {
        fault("NO", 2);
        fault("NO2", 2);
        fault("NO12", 3);
        fault("NO0", 3);
        fault("NO00", 4);
        fault("NO000", 4);
        fault("NO007", 4);
        fault("NO00d", 4);
        fault("NO001", -9);
        fault("NO116", -9);
        fault("NO001O00", 7);
        fault("NO116O11", 7);
        fault("NO101O111O1", 10);
        fault("NO101O111O0", 11);
        fault("NO001O011O021O031", -9);
        fault("NO001O011O021O031O", 17);
        fault("NO001O011O021O031O04", 17);
        fault("NO001H00W00011d", -9);
    }

    private static void letting() {
        DUE.same("letting N", Due.written("N").letting(), 0);
        DUE.same("letting of one wish", Due.written("NW00011d").letting(), 1);
        NightNet net = Due.written(Due.LONGEST);
        DUE.same("nothing is let yet", net.count(5), 0);
        DUE.same("letting of the longest", net.letting(), 5);
        DUE.same("letters stay", net.count(0), 67);
        DUE.same("wishes", net.count(1), 5);
        DUE.same("owed places", net.count(2), 4);
        DUE.same("squares", net.count(3), 5);
        DUE.same("hanging", net.count(5), 7 + 1024 + 2048);
        DUE.same("letting once more", net.letting(), 5);
        DUE.same("a letting that is less", Due.rewrite(net, "NH05O033"), 0);
        DUE.same("wishes of it", net.count(1), 0);
        DUE.same("owed places of it", net.count(2), 1);
        DUE.same("hanging of it", net.count(5), 32);
        DUE.same("nothing is owed to 0 any more", net.place(0, 2), 0);
        DUE.same("owed to 3", net.place(3, 2), 3);
        DUE.same("three may hang in the first row", net.lawful(7), 1);
        DUE.same("not four", net.lawful(15), 0);
        DUE.same("the second row is free", net.lawful(31 << 6), 1);
        DUE.same("no wish of the old ones", net.wish(0, 0), -1);
        DUE.same("many of five", net.many(5), 792 - 6 - 15 * 6);
        DUE.same("letting N again", Due.rewrite(net, "N"), 0);
        DUE.same("many of five, then", net.many(5), 792);
    }

    private static void lettingLeavesAndClears() {
        NightNet net = Due.let("NH00H06");
        net.tell(0, 0, true);
        net.tell(1, 2, false);
        net.seed(77);
        net.hang(4);
        net.hour();
        net.keep(0);
        net.keep(1);
        DUE.same("letting again", net.letting(), 0);
        DUE.same("hanging", net.count(5), 65);
        DUE.same("hour", net.count(4), 0);
        DUE.same("acts", net.count(6), 0);
        DUE.same("undo()", net.undo(), -3);
        DUE.same("again(0)", net.again(0), -3);
        DUE.same("again(1)", net.again(1), -3);
        DUE.same("told stays", net.count(7), 2);
        DUE.same("what was told stays", net.fits(1, 1), 1);
        DUE.same("the seed stays", net.seed(0), 77);
    }

    private static void lettingRefused() {
        NightNet net = Due.let("NH00W00011d");
        net.hang(4);
        net.hour();
        net.keep(1);
        DUE.same("letting with a fault", Due.rewrite(net, "NH07W01012lX"), -3);
        DUE.same("letting not at its end", Due.rewrite(net, "NH07W01012"), -3);
        DUE.same("letting of nothing", Due.rewrite(net, ""), -3);
        DUE.same("hanging as it was", net.count(5), 17);
        DUE.same("hour as it was", net.count(4), 1);
        DUE.same("wishes as they were", net.wish(0, 0), 0);
        DUE.same("worth as it was", net.wish(0, 3), 1);
        DUE.same("the kept one is there", net.again(1), 2);
    }

    private static void wish() {
        NightNet net = Due.let("NH01H09W00514dW11463lW09033dW09033lW05119l");
        int[][] want = {
            {0, 5, 1, 4, 1, 1, 32},
            {11, 4, 6, 3, 0, 0, 63},
            {9, 0, 3, 3, 1, 0, 7},
            {9, 0, 3, 3, 0, 0, 7},
            {5, 1, 1, 9, 0, 1, 2},
        };
        for (int wish = 0; wish < 5; wish++) {
            for (int what = 0; what < 7; what++) {
                DUE.same("wish(" + wish + ", " + what + ")", net.wish(wish, what), want[wish][what]);
            }
        }
        NightNet round = Due.let("NW00432dW00541l");
        DUE.same("hours round: 4, 5, 0", round.wish(0, 6), 16 + 32 + 1);
        DUE.same("hours round: 5, 0, 1, 2", round.wish(1, 6), 32 + 7);
        DUE.same("not granted by no squares", round.wish(0, 5), 0);
        round.hang(2);
        round.hang(1);
        DUE.same("two of three hours", round.wish(0, 5), 0);
        DUE.same("light in all its hours no more", round.wish(1, 5), 0);
        round.hang(0);
        DUE.same("three of three hours", round.wish(0, 5), 1);
        round.hour();
        DUE.same("the hour does not matter", round.wish(0, 5), 1);
        DUE.same("wish(-1, 0)", net.wish(-1, 0), -1);
        DUE.same("wish(5, 0)", net.wish(5, 0), -1);
        DUE.same("wish(2, 0) of two", round.wish(2, 0), -1);
        DUE.same("wish(-1, 9): what is named first", net.wish(-1, 9), -1);
        DUE.same("wish(0, -1)", net.wish(0, -1), -2);
        DUE.same("wish(0, 7)", net.wish(0, 7), -2);
    }

    private static void place() {
        NightNet net = Due.let("NH00H02H11O036O112");
        DUE.same("0 is dark", net.place(0, 0), 1);
        DUE.same("1 is light", net.place(1, 0), 0);
        DUE.same("hours of 0: cells 0, 2", net.place(0, 1), 1 + 16);
        DUE.same("hours of 3: cells 0, 2", net.place(3, 1), 8 + 2);
        DUE.same("hours of 6: cell 11", net.place(6, 1), 2);
        DUE.same("hours of 11: cell 11", net.place(11, 1), 1);
        DUE.same("owed to 3", net.place(3, 2), 6);
        DUE.same("owed to 11", net.place(11, 2), 2);
        DUE.same("owed to 0", net.place(0, 2), 0);
        DUE.same("cell above 7", net.place(7, 3), 7);
        net.hour();
        DUE.same("0 is light an hour later", net.place(0, 0), 0);
        DUE.same("1 is dark an hour later", net.place(1, 0), 1);
        DUE.same("6 is dark an hour later", net.place(6, 0), 1);
        DUE.same("hours do not change", net.place(0, 1), 1 + 16);
        DUE.same("cell above 7 an hour later", net.place(7, 3), 6);
        DUE.same("cell above 6 an hour later", net.place(6, 3), 11);
        DUE.same("cell above 0 an hour later", net.place(0, 3), 5);
        DUE.same("place(-1, 0)", net.place(-1, 0), -1);
        DUE.same("place(12, 0)", net.place(12, 0), -1);
        DUE.same("place(12, 9)", net.place(12, 9), -1);
        DUE.same("place(0, -1)", net.place(0, -1), -2);
        DUE.same("place(0, 4)", net.place(0, 4), -2);
    }

    private static void dark() {
        NightNet net = Due.let("NH04H07");
        int[] hoursOfCell4 = {2, 3, 4, 5, 0, 1}; // for the places 0 to 5
        for (int place = 0; place < 6; place++) {
            for (int hour = 0; hour < 6; hour++) {
                DUE.same("dark(" + place + ", " + hour + ")", net.dark(place, hour), hour == hoursOfCell4[place] ? 1 : 0);
            }
        }
        DUE.same("dark(7, 0)", net.dark(7, 0), 1);
        DUE.same("dark(6, 5)", net.dark(6, 5), 1);
        DUE.same("dark(6, 1)", net.dark(6, 1), 0);
        net.hour();
        DUE.same("dark(7, 0) an hour later", net.dark(7, 0), 1);
        DUE.same("dark(7, 1) an hour later", net.dark(7, 1), 0);
        DUE.same("dark(-1, 0)", net.dark(-1, 0), -1);
        DUE.same("dark(12, 6)", net.dark(12, 6), -1);
        DUE.same("dark(0, -1)", net.dark(0, -1), -2);
        DUE.same("dark(0, 6)", net.dark(0, 6), -2);
    }

    private static void read() {
        NightNet net = Due.let("NH00H01H08");
        DUE.same("read(0)", net.read(0), 32 + 16);
        DUE.same("read(1)", net.read(1), 32 + 1);
        DUE.same("read(5)", net.read(5), 16 + 8);
        DUE.same("read(2)", net.read(2), 2 + 1);
        DUE.same("read(6)", net.read(6), 8);
        DUE.same("read(8)", net.read(8), 32);
        DUE.same("read(11)", net.read(11), 4);
        net.hour();
        DUE.same("read(0) an hour later", net.read(0), 16 + 8);
        DUE.same("read(2) an hour later", net.read(2), 32 + 1);
        DUE.same("read(9) an hour later", net.read(9), 32);
        DUE.same("read(-1)", net.read(-1), -1);
        DUE.same("read(12)", net.read(12), -1);
    }
}
