/** Compares answers with those that are due, prints what differs, and ends the test with exit code 1 then. */
final class Due {
    /** All that a letting can hold: 67 letters. */
    static final String LONGEST = "NH00H01H02H10H11W00061dW11569lW05335dW06411lW10219dO006O051O064O113";

    private final String test;
    private final boolean isSilent;
    private int asked;
    private int wrong;

    Due(String test) {
        this(test, false);
    }

    private Due(String test, boolean isSilent) {
        this.test = test;
        this.isSilent = isSilent;
    }

    static Due silent() {
        return new Due("", true);
    }

    void same(String call, long got, long want) {
        asked++;
        if (got != want) {
            wrong++;
            note(call + " answered " + got + ", due is " + want);
        }
    }

    void note(String words) {
        if (!isSilent) {
            System.out.println(test + ": " + words);
        }
    }

    boolean isAsDue() {
        return asked > 0 && wrong == 0;
    }

    void close() {
        note(asked + " answers, " + wrong + " not as due");
        if (!isAsDue()) {
            System.exit(1);
        }
    }

    /** A new object with this text written. */
    static NightNet written(String text) {
        NightNet net = new NightNet();
        write(net, text);
        return net;
    }

    /** A new object with this text as its letting. */
    static NightNet let(String text) {
        NightNet net = written(text);
        if (net.letting() < 0) {
            throw new IllegalStateException("letting refused " + text);
        }
        return net;
    }

    /** What a text is let as on an object that has one already. */
    static int rewrite(NightNet net, String text) {
        net.wipe();
        write(net, text);
        return net.letting();
    }

    private static void write(NightNet net, String text) {
        for (int i = 0; i < text.length(); i++) {
            if (net.write(text.charAt(i)) != i + 1) {
                throw new IllegalStateException("write refused " + text.charAt(i));
            }
        }
    }
}
