import java.util.function.Supplier;

/** What is refused changes nothing: of two objects with one past, one is asked what it must refuse; both go on alike. */
final class Twins {
    private Twins() {
    }

    interface Call {
        long on(NightNet net);
    }

    static void refused(Due due, String call, long refusal, Supplier<NightNet> past, Call asked) {
        due.same(call, asked.on(past.get()), refusal);
        same(due, call, past, asked);
    }

    /** Calls that only look change nothing either, whatever they answer. */
    static void same(Due due, String call, Supplier<NightNet> past, Call asked) {
        NightNet one = past.get();
        NightNet other = past.get();
        asked.on(one);
        look(due, call, one, other);
        for (int act = 0; act < 17; act++) {
            both(due, call + ", undo()", one, other, NightNet::undo);
            both(due, call + ", hanging", one, other, net -> net.count(5));
            both(due, call + ", hour", one, other, net -> net.count(4));
        }
        for (int slot = 0; slot < 2; slot++) {
            int kept = slot;
            both(due, call + ", again(" + slot + ")", one, other, net -> net.again(kept));
            both(due, call + ", kept hanging", one, other, net -> net.count(5));
            both(due, call + ", kept hour", one, other, net -> net.count(4));
        }
        both(due, call + ", wipe()", one, other, NightNet::wipe);
    }

    private static void look(Due due, String call, NightNet one, NightNet other) {
        for (int what = 0; what < 9; what++) {
            int counted = what;
            both(due, call + ", count(" + what + ")", one, other, net -> net.count(counted));
        }
        both(due, call + ", fault()", one, other, NightNet::fault);
        for (int wish = 0; wish < 5; wish++) {
            for (int what = 0; what < 5; what++) {
                int number = wish;
                int asked = what;
                both(due, call + ", wish(" + wish + ", " + what + ")", one, other, net -> net.wish(number, asked));
            }
        }
        for (int place = 0; place < 12; place++) {
            int owed = place;
            both(due, call + ", place(" + place + ", 2)", one, other, net -> net.place(owed, 2));
        }
        for (int n = 0; n < 6; n++) {
            int squares = n;
            both(due, call + ", best(" + n + ", 1)", one, other, net -> net.best(squares, 1));
            both(due, call + ", fits(" + n + ", 0)", one, other, net -> net.fits(squares, 0));
            both(due, call + ", fits(" + n + ", 1)", one, other, net -> net.fits(squares, 1));
            both(due, call + ", fits(" + n + ", 2)", one, other, net -> net.fits(squares, 2));
        }
        both(due, call + ", seed(7)", one, other, net -> net.seed(7));
    }

    private static void both(Due due, String call, NightNet one, NightNet other, Call asked) {
        due.same(call, asked.on(one), asked.on(other));
    }
}
