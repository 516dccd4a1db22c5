/** Promises 31 to 33: keep, again and count. */
public final class SlotsTest {
    private static final Due DUE = new Due("SlotsTest");

    public static void main(String[] args) {
        keep();
        again();
        count();
        DUE.close();
    }

    private static void keep() {
        NightNet net = Due.let("NH00H11");
        DUE.same("keep(-1)", net.keep(-1), -1);
        DUE.same("keep(2)", net.keep(2), -1);
        DUE.same("keep(0)", net.keep(0), 2);
        DUE.same("again(1), not kept", net.again(1), -3);
        net.take(0);
        DUE.same("keep(1)", net.keep(1), 1);
        DUE.same("acts stay", net.count(6), 1);
        DUE.same("again(0)", net.again(0), 2);
        DUE.same("hanging of 0", net.count(5), 1 + 2048);
        DUE.same("again(1)", net.again(1), 1);
        DUE.same("hanging of 1", net.count(5), 2048);
        net.take(11);
        DUE.same("keep(0) over what was kept", net.keep(0), 0);
        net.hang(3);
        DUE.same("again(0), none hang", net.again(0), 0);
        DUE.same("hanging of that", net.count(5), 0);
        DUE.same("again(1) is as it was", net.again(1), 1);
    }

    private static void again() {
        NightNet net = Due.let("NH00W00011d");
        DUE.same("again(0), none kept", net.again(0), -3);
        for (int i = 0; i < 5; i++) {
            net.hour();
        }
        net.hang(9);
        net.keep(1);
        net.hour();
        net.take(0);
        net.move(9, 0);
        net.seed(4);
        net.tell(0, 0, false);
        DUE.same("again(0), only 1 is kept", net.again(0), -3);
        DUE.same("acts as they were", net.count(6), 9);
        DUE.same("again(-1)", net.again(-1), -1);
        DUE.same("again(2)", net.again(2), -1);
        DUE.same("again(1)", net.again(1), 2);
        DUE.same("hanging", net.count(5), 1 + 512);
        DUE.same("hour", net.count(4), 5);
        DUE.same("acts are empty", net.count(6), 0);
        DUE.same("undo()", net.undo(), -3);
        DUE.same("wishes stay", net.count(1), 1);
        DUE.same("letters stay", net.count(0), 11);
        DUE.same("told stays", net.count(7), 1);
        DUE.same("the seed stays", net.seed(0), 4);
        net.hang(4);
        DUE.same("again(1) once more", net.again(1), 2);
    }

    private static void count() {
        NightNet net = Due.let("NH00H07W00013dW00012lO005O062O111");
        net.hang(3);
        net.hour();
        net.hour();
        net.tell(0, 0, true);
        net.write('X');
        int[] want = {34, 2, 3, 3, 2, 1 + 8 + 128, 3, 1, 1};
        for (int what = 0; what < want.length; what++) {
            DUE.same("count(" + what + ")", net.count(what), want[what]);
        }
        DUE.same("count(-1)", net.count(-1), -2);
        DUE.same("count(9)", net.count(9), -2);
        net.take(0);
        DUE.same("wishes that are granted without 0", net.count(8), 2);
    }
}
