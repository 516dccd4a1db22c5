import java.util.ArrayList;
import java.util.List;

/**
 * Ways to break sentences of the document in the class, each with the tests that must see it. A break is told as
 * words of the class (in one line, without comments) and what stands there instead. Whoever changes these words of
 * the class changes them here, too.
 */
abstract class Breaks {
    private final List<Break> breaks = new ArrayList<>();

    record Break(String from, String to, List<String> tests) {
    }

    static List<Break> all() {
        List<Break> all = new ArrayList<>();
        for (Breaks some : List.of(new EdgeBreaks(), new SentenceBreaks())) {
            all.addAll(some.breaks);
        }
        return all;
    }

    final void broken(String from, String to, String... tests) {
        breaks.add(new Break(from, to, List.of(tests)));
    }

    /** Words that come in addition behind those that stand there. */
    final void added(String behind, String more, String... tests) {
        broken(behind, behind + more, tests);
    }

    final void gone(String words, String... tests) {
        broken(words, "", tests);
    }
}
