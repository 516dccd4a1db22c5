/** Long runs of calls drawn by a fixed row of numbers, answered by the class and by PlainNet. */
public final class RunsTest {
    private static final int RUNS = 400;
    private static final int CALLS = 512;
    private static final int KINDS = 33;
    private static final String[] NAMES = {
        "write", "wipe", "fault", "letting", "wish", "place", "dark", "read", "hang", "take", "move", "hour",
        "undo", "judge", "worth", "lawful", "best", "many", "bars", "loss", "flow", "due", "share", "tell",
        "untell", "fits", "wind", "seed", "storm", "keep", "again", "count", "text",
    };
    private static final Due DUE = new Due("RunsTest");

    private static long drawn = 20261118;

    public static void main(String[] args) {
        for (int run = 0; run < RUNS; run++) {
            run(run);
        }
        DUE.close();
    }

    private static void run(int run) {
        NightNet net = new NightNet();
        PlainNet plain = new PlainNet();
        int calls = writeText(run, net, plain, 0);
        DUE.same("run " + run + ": letting", net.letting(), plain.letting());
        calls++;
        while (calls < CALLS - 80) {
            int kind = draw(KINDS);
            if (kind == 32) {
                // A text is written now and then; most calls ask about one that stands.
                if (draw(4) == 0) {
                    calls += writeText(run, net, plain, calls);
                }
            } else if (kind > 1 || draw(3) == 0) {
                call(run, kind, net, plain);
                calls++;
            }
        }
    }

    private static int draw(int below) {
        drawn = drawn * 2862933555777941757L + 3037000493L;
        return (int) ((drawn >>> 33) % below);
    }

    /** A number that is mostly from 0 to a last one and now and then beside it or far away. */
    private static int around(int last) {
        int way = draw(24);
        if (way == 0) {
            return -1;
        }
        if (way == 1) {
            return last + 1;
        }
        if (way == 2) {
            return new int[] {Integer.MIN_VALUE, Integer.MAX_VALUE, -2, 100, 4096}[draw(5)];
        }
        return draw(last + 1);
    }

    private static int writeText(int run, NightNet net, PlainNet plain, int calls) {
        DUE.same("run " + run + ": wipe", net.wipe(), plain.wipe());
        String text = text();
        int written = 0;
        for (int i = 0; i < text.length() && calls + written < CALLS - 4; i++) {
            DUE.same("run " + run + ": write", net.write(text.charAt(i)), plain.write(text.charAt(i)));
            written++;
        }
        DUE.same("run " + run + ": fault of " + text, net.fault(), plain.fault());
        return written + 2;
    }

    private static String text() {
        StringBuilder text = new StringBuilder("N");
        int parts = draw(14);
        int squares = 0;
        int wishes = 0;
        int owed = 0;
        int taken = 0;
        int given = 0;
        boolean wild = draw(4) == 0;
        for (int i = 0; i < parts; i++) {
            int number = draw(12);
            int kind = draw(3);
            String two = (number < 10 ? "0" : "") + number;
            if (kind == 0 && (wild || squares < 5 && (taken >> number & 1) == 0)) {
                text.append('H').append(two);
                taken |= 1 << number;
                squares++;
            } else if (kind == 1 && (wild || wishes < 5)) {
                text.append('W').append(two).append(draw(6)).append(1 + draw(draw(2) == 0 ? 3 : 6));
                text.append(1 + draw(9)).append(draw(3) == 0 ? 'l' : 'd');
                wishes++;
            } else if (kind == 2 && (wild || owed < 4 && (given >> number & 1) == 0)) {
                text.append('O').append(two).append(1 + draw(6));
                given |= 1 << number;
                owed++;
            }
        }
        if (wild && draw(2) == 0) {
            text.setCharAt(draw(text.length()), "NHWO0123456789dlX\u00ff".charAt(draw(18)));
        }
        if (wild && draw(3) == 0) {
            text.setLength(draw(text.length() + 1));
        }
        return text.toString();
    }

    private static void call(int run, int kind, NightNet net, PlainNet plain) {
        int[] told = arguments(kind);
        int a = told[0];
        int b = told[1];
        boolean c = told[2] == 1;
        long got = ask(kind, a, b, c, net);
        long want = askPlain(kind, a, b, c, plain);
        DUE.same("run " + run + ": " + NAMES[kind] + "(" + a + ", " + b + ", " + c + ")", got, want);
    }

    private static int[] arguments(int kind) {
        int flag = draw(2);
        switch (kind) {
            case 0:
                return new int[] {around(255), 0, flag};
            case 4:
                return new int[] {around(4), around(6), flag};
            case 5:
                return new int[] {around(11), around(3), flag};
            case 6:
            case 23:
                return new int[] {around(11), around(5), flag};
            case 10:
                return new int[] {around(11), around(2) - 1, flag};
            case 13:
                int n = 1 + around(1);
                int move = draw(12) * 10 + draw(3);
                int row = draw(4) == 0 ? around(n == 1 ? 999 : 999999) : n == 1 ? move : move * 1000 + draw(12) * 10 + draw(3);
                return new int[] {n, row, flag};
            case 14:
            case 15:
            case 20:
                return new int[] {draw(3) == 0 ? around(4095) : hanging(), 0, flag};
            case 16:
            case 25:
                return new int[] {around(5), around(2), flag};
            case 17:
                return new int[] {around(5), 0, flag};
            case 18:
            case 21:
            case 22:
                return new int[] {around(4), around(5), flag};
            case 26:
                return new int[] {around(10), 0, flag};
            case 27:
                return new int[] {around(1000000), draw(1000), flag};
            case 28:
                return new int[] {around(40), 0, flag};
            case 29:
            case 30:
                return new int[] {around(1), 0, flag};
            case 31:
                return new int[] {around(8), 0, flag};
            default:
                return new int[] {around(11), 0, flag};
        }
    }

    private static int hanging() {
        int hanging = 0;
        for (int squares = draw(6); squares > 0; squares--) {
            hanging |= 1 << draw(12);
        }
        return hanging;
    }

    private static long ask(int kind, int a, int b, boolean c, NightNet net) {
        switch (kind) {
            case 0: return net.write(a);
            case 1: return net.wipe();
            case 2: return net.fault();
            case 3: return net.letting();
            case 4: return net.wish(a, b);
            case 5: return net.place(a, b);
            case 6: return net.dark(a, b);
            case 7: return net.read(a);
            case 8: return net.hang(a);
            case 9: return net.take(a);
            case 10: return net.move(a, b);
            case 11: return net.hour();
            case 12: return net.undo();
            case 13: return net.judge(a, b);
            case 14: return net.worth(a);
            case 15: return net.lawful(a);
            case 16: return net.best(a, b);
            case 17: return net.many(a);
            case 18: return net.bars(a, b);
            case 19: return net.loss(a);
            case 20: return net.flow(a);
            case 21: return net.due(a, b);
            case 22: return net.share(a, b, c);
            case 23: return net.tell(a, b, c);
            case 24: return net.untell();
            case 25: return net.fits(a, b);
            case 26: return net.wind(a, c);
            case 27: return net.seed((long) a << 40 | b);
            case 28: return net.storm(a);
            case 29: return net.keep(a);
            case 30: return net.again(a);
            default: return net.count(a);
        }
    }

    private static long askPlain(int kind, int a, int b, boolean c, PlainNet net) {
        switch (kind) {
            case 0: return net.write(a);
            case 1: return net.wipe();
            case 2: return net.fault();
            case 3: return net.letting();
            case 4: return net.wish(a, b);
            case 5: return net.place(a, b);
            case 6: return net.dark(a, b);
            case 7: return net.read(a);
            case 8: return net.hang(a);
            case 9: return net.take(a);
            case 10: return net.move(a, b);
            case 11: return net.hour();
            case 12: return net.undo();
            case 13: return net.judge(a, b);
            case 14: return net.worth(a);
            case 15: return net.lawful(a);
            case 16: return net.best(a, b);
            case 17: return net.many(a);
            case 18: return net.bars(a, b);
            case 19: return net.loss(a);
            case 20: return net.flow(a);
            case 21: return net.due(a, b);
            case 22: return net.share(a, b, c);
            case 23: return net.tell(a, b, c);
            case 24: return net.untell();
            case 25: return net.fits(a, b);
            case 26: return net.wind(a, c);
            case 27: return net.seed((long) a << 40 | b);
            case 28: return net.storm(a);
            case 29: return net.keep(a);
            case 30: return net.again(a);
            default: return net.count(a);
        }
    }
}
