/** Compares answers with those that are due, prints what differs, and ends the test with exit code 1 then. */
final class Due {
    private final String test;
    private int asked;
    private int wrong;

    Due(String test) {
        this.test = test;
    }

    void same(String call, long got, long want) {
        asked++;
        if (got != want) {
            wrong++;
            System.out.println(test + ": " + call + " answered " + got + ", due is " + want);
        }
    }

    void close() {
        System.out.println(test + ": " + asked + " answers, " + wrong + " not as due");
        if (asked == 0 || wrong != 0) {
            System.exit(1);
        }
    }

    /** A new object with this text written. */
    static NightNet written(String text) {
        NightNet net = new NightNet();
        for (int i = 0; i < text.length(); i++) {
            if (net.write(text.charAt(i)) != i + 1) {
                throw new IllegalStateException("write refused " + text.charAt(i));
            }
        }
        return net;
    }

    /** A new object with this text as its letting. */
    static NightNet let(String text) {
        NightNet net = written(text);
        if (net.letting() < 0) {
            throw new IllegalStateException("letting refused " + text);
        }
        return net;
    }

    /** What a text is let as on an object that has one already. */
    static int rewrite(NightNet net, String text) {
        net.wipe();
        for (int i = 0; i < text.length(); i++) {
            net.write(text.charAt(i));
        }
        return net.letting();
    }
}
