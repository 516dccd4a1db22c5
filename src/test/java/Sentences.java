import java.io.IOException;
import java.lang.reflect.InvocationTargetException;
import java.lang.reflect.Method;
import java.nio.file.Files;
import java.nio.file.Path;
import java.util.ArrayList;
import java.util.Comparator;
import java.util.List;

/** Runs the tests of sentences that stand in a class, each by itself, and looks whether the document says them. */
final class Sentences {
    static final Path DOCUMENT = Path.of("../shared/DOC.md");
    /** All that are made of tests of sentences. */
    static final List<Class<?>> TESTS = List.of(TermsTest.class, PromisesTest.class, LettingEdgesTest.class,
        ActsEdgesTest.class, WorthsEdgesTest.class, PricesEdgesTest.class, ToldEdgesTest.class, SlotsEdgesTest.class);

    private Sentences() {
    }

    static void run(Class<?> tests) throws IOException {
        String document = Files.exists(DOCUMENT) ? withSingleBlanks(Files.readString(DOCUMENT)) : null;
        int broken = 0;
        List<Method> all = of(tests);
        for (Method test : all) {
            String says = test.getAnnotation(Sentence.class).value();
            if (document != null && !document.contains(says)) {
                broken++;
                System.out.println(name(test) + ": the document does not say: " + says);
            }
            if (!holds(test, new Due(name(test)))) {
                broken++;
                System.out.println(name(test) + ": this is broken: " + says);
            }
        }
        System.out.println(tests.getName() + ": " + all.size() + " sentences, " + broken + " broken");
        if (all.isEmpty() || broken != 0) {
            System.exit(1);
        }
    }

    static List<Method> of(Class<?> tests) {
        List<Method> found = new ArrayList<>();
        for (Method method : tests.getDeclaredMethods()) {
            if (method.isAnnotationPresent(Sentence.class)) {
                found.add(method);
            }
        }
        found.sort(Comparator.comparing(Method::getName));
        return found;
    }

    static String name(Method test) {
        return test.getDeclaringClass().getName() + "." + test.getName();
    }

    /** Asked by BrokenTest of a class that is broken on purpose, so nothing is printed. */
    static boolean holds(String className, String testName) throws ReflectiveOperationException {
        Method test = Class.forName(className).getDeclaredMethod(testName, Due.class);
        return holds(test, Due.silent());
    }

    private static boolean holds(Method test, Due due) {
        try {
            test.invoke(null, due);
            return due.isAsDue();
        } catch (InvocationTargetException | IllegalAccessException e) {
            due.note(String.valueOf(e.getCause()));
            return false;
        }
    }

    static String withSingleBlanks(String text) {
        return text.replaceAll("\\s+", " ");
    }
}
