import java.util.ArrayList;
import java.util.List;

/** What is refused changes nothing: of two objects with one past, one is asked what it must refuse, and both go on alike. */
public final class RefusalsTest {
    private static final Due DUE = new Due("RefusalsTest");
    private static final int LEAST = Integer.MIN_VALUE;
    private static final int MOST = Integer.MAX_VALUE;

    public static void main(String[] args) {
        for (int past = 0; past < 4; past++) {
            NightNet asked = lived(past);
            refuse(asked, past);
            List<Long> want = all(lived(past));
            List<Long> got = all(asked);
            DUE.same("past " + past + ": answers", got.size(), want.size());
            for (int i = 0; i < Math.min(got.size(), want.size()); i++) {
                DUE.same("past " + past + ": answer " + i, got.get(i), want.get(i));
            }
        }
        DUE.close();
    }

    /** Pasts: nothing, a full net with all told, a text with a fault, one slot kept. */
    private static NightNet lived(int past) {
        NightNet net = new NightNet();
        if (past == 0) {
            return net;
        }
        net = Due.let("NH00H01H07W00013dW00012lW06322dO004O072");
        net.hour();
        net.move(1, 1);
        net.seed(99);
        net.keep(0);
        if (past == 1) {
            net.hang(5);
            net.hang(9);
            for (int told = 0; told < 6; told++) {
                net.tell(told, told, told % 2 == 0);
            }
            for (int letters = net.count(0); letters < 72; letters++) {
                net.write('H');
            }
        }
        if (past == 2) {
            net.write('W');
            net.write('1');
            net.tell(3, 3, true);
        }
        if (past == 3) {
            net.take(0);
        }
        return net;
    }

    private static void refuse(NightNet net, int past) {
        for (int bad : new int[] {LEAST, -1, 12, 13, 4096, MOST}) {
            refused("place", net.place(bad, 0), -1);
            refused("dark", net.dark(bad, 0), -1);
            refused("read", net.read(bad), -1);
            refused("hang", net.hang(bad), -1);
            refused("take", net.take(bad), -1);
            refused("move", net.move(bad, 7), -1);
            refused("loss", net.loss(bad), -1);
            refused("tell", net.tell(bad, 9, true), -1);
            refused("keep", net.keep(bad), -1);
            refused("again", net.again(bad), -1);
            refused("wish", net.wish(bad, 9), -1);
            refused("bars", net.bars(bad, 9), -1);
            refused("due", net.due(bad, 9), -1);
            refused("share", net.share(bad, 9, true), -1);
        }
        for (int bad : new int[] {LEAST, -2, -1, 256, MOST}) {
            refused("write", net.write(bad), -2);
            refused("place", net.place(0, bad), -2);
            refused("dark", net.dark(0, bad), -2);
            refused("judge", net.judge(bad, 0), -2);
            refused("best", net.best(bad, 0), -2);
            refused("best", net.best(0, bad), -2);
            refused("many", net.many(bad), -2);
            refused("tell", net.tell(0, bad, true), -2);
            refused("fits", net.fits(bad, 0), -2);
            refused("fits", net.fits(0, bad), -2);
            refused("wind", net.wind(bad, true), -2);
            refused("storm", net.storm(bad), -2);
            refused("count", net.count(bad), -2);
        }
        for (int bad : new int[] {LEAST, -1, 63, 4032, 4096, MOST}) {
            refused("worth", net.worth(bad), -2);
            refused("lawful", net.lawful(bad), -2);
            refused("flow", net.flow(bad), -2);
        }
        for (int bad : new int[] {LEAST, -2, 2, MOST}) {
            refused("move", net.move(0, bad), -2);
        }
        for (int bad : new int[] {LEAST, -1, 1000, MOST}) {
            refused("judge", net.judge(1, bad), -2);
        }
        refused("judge", net.judge(2, 1000000), -2);
        refused("storm", net.storm(0), -2);
        refused("storm", net.storm(41), -2);
        refusedAsItStands(net, past);
    }

    private static void refusedAsItStands(NightNet net, int past) {
        refused("take where none hangs", net.take(4), -3);
        refused("move where none hangs", net.move(4, 1), -3);
        refused("loss where none hangs", net.loss(4), -3);
        refused("again of none kept", net.again(1), -3);
        if (past == 0) {
            refused("letting", net.letting(), -3);
            refused("undo", net.undo(), -3);
            refused("flow", net.flow(1), -3);
            return;
        }
        refused("hang where one hangs", net.hang(2), -3);
        refused("flow to none", net.flow(0), -3);
        if (past == 1) {
            refused("hang", net.hang(11), -4);
            refused("tell", net.tell(0, 0, true), -4);
            refused("write", net.write('H'), -4);
            refused("move onto a square", net.move(5, 1), -3);
        }
        if (past < 3) {
            refused("letting", net.letting(), -3);
        }
    }

    private static void refused(String call, long got, long want) {
        DUE.same("refused " + call, got, want);
    }

    /** All answers of an object, and then of what it becomes. */
    private static List<Long> all(NightNet net) {
        List<Long> seen = new ArrayList<>();
        seen.add((long) net.fault());
        look(net, seen);
        seen.add(net.seed(5));
        seen.add((long) net.storm(9));
        seen.add((long) net.write('N'));
        seen.add((long) net.count(6));
        while (net.undo() >= 0) {
            look(net, seen);
        }
        for (int slot = 0; slot < 2; slot++) {
            seen.add((long) net.again(slot));
            look(net, seen);
        }
        seen.add((long) net.untell());
        seen.add((long) net.wipe());
        return seen;
    }

    private static void look(NightNet net, List<Long> seen) {
        for (int what = 0; what < 9; what++) {
            seen.add((long) net.count(what));
        }
        for (int place = 0; place < 12; place++) {
            seen.add((long) net.place(place, 1));
            seen.add((long) net.place(place, 2));
        }
        for (int n = 0; n < 6; n++) {
            seen.add((long) net.many(n));
            seen.add((long) net.fits(n, 0));
            seen.add((long) net.best(n, 1));
        }
        for (int what = 0; what < 7; what++) {
            for (int wish = 0; wish < 5; wish++) {
                seen.add((long) net.wish(wish, what));
            }
        }
    }
}
