import java.io.IOException;
import java.lang.reflect.Method;
import java.nio.file.Files;
import java.util.regex.Matcher;
import java.util.regex.Pattern;

/** That no sentence of the document is without a test: what no test names, and is no aside, is printed. */
public final class DocumentTest {
    private static final Due DUE = new Due("DocumentTest");
    /** What tells of the page, of what is free, or of the face (which LanguageTest holds). */
    private static final String[] ASIDES = {
        "^# NightNet ## What it is .*? kept and gone on from\\.",
        "; what later calls answer is free\\.",
        "## The public face ```java .*? ``` ## Terms",
        "==== [123]",
        "```text",
        "Ahead of the calls [^:]* the interface says: ---- [a-z, ]*\\.",
        "## Promise \\d+: [a-zA-Z ]+ `[^`]*`:",
        "## Not promised How the state .*? Nothing is promised beyond",
        ", and nothing about an object after its 512th call\\.",
    };

    public static void main(String[] args) throws IOException {
        if (!Files.exists(Sentences.DOCUMENT)) {
            System.out.println("DocumentTest: there is no document, so nothing is looked for in it");
            return;
        }
        String document = Sentences.withSingleBlanks(Files.readString(Sentences.DOCUMENT));
        boolean[] named = new boolean[document.length()];
        for (Class<?> tests : Sentences.TESTS) {
            for (Method test : Sentences.of(tests)) {
                mark(named, document, test.getAnnotation(Sentence.class).value());
            }
        }
        for (String aside : ASIDES) {
            markAside(named, document, aside);
        }
        look(document, named);
        DUE.close();
    }

    private static void mark(boolean[] named, String document, String words) {
        for (int at = document.indexOf(words); at >= 0; at = document.indexOf(words, at + 1)) {
            mark(named, at, at + words.length());
        }
    }

    private static void markAside(boolean[] named, String document, String aside) {
        Matcher found = Pattern.compile(aside).matcher(document);
        int times = 0;
        while (found.find()) {
            mark(named, found.start(), found.end());
            times++;
        }
        DUE.same("the document says " + aside, times > 0 ? 1 : 0, 1);
    }

    private static void mark(boolean[] named, int from, int to) {
        for (int i = from; i < to; i++) {
            named[i] = true;
        }
    }

    private static void look(String document, boolean[] named) {
        int from = 0;
        while (from < named.length) {
            int to = from;
            while (to < named.length && !named[to]) {
                to++;
            }
            String words = document.substring(from, to);
            DUE.same("words that no test names: " + words, words.matches(".*[a-zA-Z0-9].*") ? 1 : 0, 0);
            from = to + 1;
        }
    }
}
