/** Every call is refused in every way that it names, in several pasts, and changes nothing by it. */
public final class RefusalsTest {
    private static final Due DUE = new Due("RefusalsTest");
    private static final int LEAST = Integer.MIN_VALUE;
    private static final int MOST = Integer.MAX_VALUE;

    private final int past;

    private RefusalsTest(int past) {
        this.past = past;
    }

    public static void main(String[] args) {
        for (int past = 0; past < 4; past++) {
            RefusalsTest test = new RefusalsTest(past);
            test.unknown();
            test.outside();
            test.asItStands();
        }
        DUE.close();
    }

    /** Pasts: nothing, a full net with all told, a text with a fault, one slot kept. */
    private NightNet lived() {
        if (past == 0) {
            return new NightNet();
        }
        NightNet net = Due.let("NH00H01H07W00013dW00012lW06322dO004O072");
        net.hour();
        net.move(1, 1);
        net.seed(99);
        net.keep(0);
        if (past == 1) {
            net.hang(5);
            net.hang(9);
            for (int told = 0; told < 6; told++) {
                net.tell(told, told, told % 2 == 0);
            }
            for (int letters = net.count(0); letters < 72; letters++) {
                net.write('H');
            }
        }
        if (past == 2) {
            net.write('W');
            net.write('1');
            net.tell(3, 3, true);
        }
        if (past == 3) {
            net.take(0);
        }
        return net;
    }

    private void refused(String call, long refusal, Twins.Call asked) {
        Twins.refused(DUE, "past " + past + ": " + call, refusal, this::lived, asked);
    }

    private void unknown() {
        for (int bad : new int[] {LEAST, -1, 12, 13, 4096, MOST}) {
            refused("place", -1, net -> net.place(bad, 0));
            refused("dark", -1, net -> net.dark(bad, 0));
            refused("read", -1, net -> net.read(bad));
            refused("hang", -1, net -> net.hang(bad));
            refused("take", -1, net -> net.take(bad));
            refused("move", -1, net -> net.move(bad, 7));
            refused("loss", -1, net -> net.loss(bad));
            refused("tell", -1, net -> net.tell(bad, 9, true));
            refused("keep", -1, net -> net.keep(bad));
            refused("again", -1, net -> net.again(bad));
            refused("wish", -1, net -> net.wish(bad, 9));
            refused("bars", -1, net -> net.bars(bad, 9));
            refused("due", -1, net -> net.due(bad, 9));
            refused("share", -1, net -> net.share(bad, 9, true));
        }
    }

    private void outside() {
        for (int bad : new int[] {LEAST, -2, -1, 256, MOST}) {
            refused("write", -2, net -> net.write(bad));
            refused("place", -2, net -> net.place(0, bad));
            refused("dark", -2, net -> net.dark(0, bad));
            refused("judge", -2, net -> net.judge(bad, 0));
            refused("best", -2, net -> net.best(bad, 0));
            refused("best", -2, net -> net.best(0, bad));
            refused("many", -2, net -> net.many(bad));
            refused("tell", -2, net -> net.tell(0, bad, true));
            refused("fits", -2, net -> net.fits(bad, 0));
            refused("fits", -2, net -> net.fits(0, bad));
            refused("wind", -2, net -> net.wind(bad, true));
            refused("storm", -2, net -> net.storm(bad));
            refused("count", -2, net -> net.count(bad));
        }
        for (int bad : new int[] {LEAST, -1, 63, 4032, 4096, MOST}) {
            refused("worth", -2, net -> net.worth(bad));
            refused("lawful", -2, net -> net.lawful(bad));
            refused("flow", -2, net -> net.flow(bad));
        }
        for (int bad : new int[] {LEAST, -2, 2, MOST}) {
            refused("move", -2, net -> net.move(0, bad));
        }
        for (int bad : new int[] {LEAST, -1, 1000, MOST}) {
            refused("judge", -2, net -> net.judge(1, bad));
        }
        refused("judge", -2, net -> net.judge(2, 1000000));
        refused("storm", -2, net -> net.storm(0));
        refused("storm", -2, net -> net.storm(41));
    }

    private void asItStands() {
        refused("take where none hangs", -3, net -> net.take(4));
        refused("move where none hangs", -3, net -> net.move(4, 1));
        refused("loss where none hangs", -3, net -> net.loss(4));
        refused("again of none kept", -3, net -> net.again(1));
        if (past == 0) {
            refused("letting", -3, NightNet::letting);
            refused("undo", -3, NightNet::undo);
            refused("flow", -3, net -> net.flow(1));
            return;
        }
        refused("wish", -2, net -> net.wish(0, 7));
        refused("bars", -2, net -> net.bars(2, 6));
        refused("due", -2, net -> net.due(2, -1));
        refused("share", -2, net -> net.share(0, 6, false));
        refused("hang where one hangs", -3, net -> net.hang(2));
        refused("flow to none", -3, net -> net.flow(0));
        if (past == 1) {
            refused("hang", -4, net -> net.hang(11));
            refused("tell", -4, net -> net.tell(0, 0, true));
            refused("write", -4, net -> net.write('H'));
            refused("move round onto a square", -3, net -> net.move(5, 1));
        }
        if (past < 3) {
            refused("letting", -3, NightNet::letting);
        }
    }
}
