import java.io.IOException;
import java.lang.reflect.Method;
import java.nio.file.Files;
import java.nio.file.Path;
import java.util.List;
import java.util.Map;
import java.util.Set;
import java.util.TreeMap;
import java.util.TreeSet;
import java.util.concurrent.ConcurrentSkipListSet;

/**
 * That the tests of sentences can fail: each sentence is broken in a copy of the class, and its own test must see it.
 * What is broken, and how, stands in Breaks (EdgeBreaks, SentenceBreaks).
 */
public final class BrokenTest {
    private static final Path SOURCE = Path.of("src/main/java/NightNet.java");

    private final String source;
    private final Map<String, String> classOf = new TreeMap<>();
    private final Set<String> faults = new ConcurrentSkipListSet<>();
    private final Set<String> seen = new ConcurrentSkipListSet<>();

    private BrokenTest(String source) {
        this.source = source;
        for (Class<?> tests : Sentences.TESTS) {
            for (Method test : Sentences.of(tests)) {
                if (classOf.put(test.getName(), tests.getName()) != null) {
                    faults.add("two tests are called " + test.getName());
                }
            }
        }
    }

    public static void main(String[] args) throws IOException {
        if (!BrokenClass.canBeMade()) {
            System.out.println("BrokenTest: this java has no compiler in it, so nothing is broken");
            return;
        }
        BrokenTest test = new BrokenTest(inOneLine(Files.readString(SOURCE)));
        List<Breaks.Break> all = Breaks.all();
        if (2 * all.stream().filter(test::stands).count() < all.size()) {
            // The breaks tell words of one class; another class that holds to the document is none the worse for it.
            System.out.println("BrokenTest: the class is written in other words than Breaks tells, so nothing is broken");
            return;
        }
        all.parallelStream().forEach(test::look);
        test.close(all.size());
    }

    /** Without comments and with single blanks, so that a break can be told in one line. */
    private static String inOneLine(String source) {
        return source.replaceAll("(?s)/\\*.*?\\*/", "").replaceAll("//[^\n]*", "").replaceAll("\\s+", " ");
    }

    private boolean stands(Breaks.Break one) {
        int at = source.indexOf(one.from());
        return at >= 0 && source.indexOf(one.from(), at + 1) < 0;
    }

    private void look(Breaks.Break one) {
        if (!stands(one)) {
            faults.add("stands not just once in the class: " + one.from());
            return;
        }
        BrokenClass broken = BrokenClass.of(source.replace(one.from(), one.to()));
        if (broken == null) {
            faults.add("does not compile: " + one.to());
            return;
        }
        for (String test : one.tests()) {
            look(one, broken, test);
        }
    }

    private void look(Breaks.Break one, BrokenClass broken, String test) {
        try {
            if (!classOf.containsKey(test)) {
                faults.add("there is no test " + test);
            } else if (broken.holds(classOf.get(test), test)) {
                faults.add(test + " holds, though this stands in the class: " + one.to());
            } else {
                seen.add(test);
            }
        } catch (ReflectiveOperationException e) {
            faults.add(test + ": " + e);
        }
    }

    private void close(int breaks) {
        Set<String> unbroken = new TreeSet<>(classOf.keySet());
        unbroken.removeAll(seen);
        for (String test : unbroken) {
            faults.add("nothing is told that breaks " + test);
        }
        faults.forEach(fault -> System.out.println("BrokenTest: " + fault));
        System.out.println("BrokenTest: " + breaks + " breaks, " + seen.size() + " tests that see them");
        if (!faults.isEmpty()) {
            System.exit(1);
        }
    }
}
