import java.io.IOException;
import java.lang.reflect.Constructor;
import java.lang.reflect.Field;
import java.lang.reflect.Method;
import java.lang.reflect.Modifier;
import java.nio.file.Files;
import java.nio.file.Path;
import java.util.Set;
import java.util.TreeSet;
import java.util.regex.Matcher;
import java.util.regex.Pattern;

/** The public face, and those rules of LANGUAGE.md that can be seen without knowing what the class means. */
public final class LanguageTest {
    private static final Due DUE = new Due("LanguageTest");
    private static final String[] FACE = {
        "int write(int)", "int wipe()", "int fault()", "int letting()", "int wish(int,int)", "int place(int,int)",
        "int dark(int,int)", "int read(int)", "int hang(int)", "int take(int)", "int move(int,int)", "int hour()",
        "int undo()", "int judge(int,int)", "int worth(int)", "int lawful(int)", "int best(int,int)", "int many(int)",
        "int bars(int,int)", "int loss(int)", "int flow(int)", "int due(int,int)", "int share(int,int,boolean)",
        "int tell(int,int,boolean)", "int untell()", "int fits(int,int)", "int wind(int,boolean)", "long seed(long)",
        "int storm(int)", "int keep(int)", "int again(int)", "int count(int)",
    };

    private static final Set<String> OF_OBJECTS =
        Set.of("boolean equals(class java.lang.Object)", "int hashCode()", "class java.lang.String toString()");
    /** The library's functions and classes that rule 4 lists; of those over numbers it lists no names, so they are free. */
    private static final Pattern LISTED = Pattern.compile(
        "(Math|Integer|Long)\\.\\w+|System\\.arraycopy|Arrays\\.(copyOf|copyOfRange|fill)|List\\.of");
    private static final Set<String> IMPORTS = Set.of("ArrayList", "Arrays", "Iterator", "List");

    public static void main(String[] args) throws IOException {
        String source = Files.readString(Path.of("src/main/java/NightNet.java"));
        face();
        insides();
        words(withoutComments(source));
        sizes(source);
        DUE.close();
    }

    private static void holds(String rule, boolean holds) {
        DUE.same(rule, holds ? 1 : 0, 1);
    }

    private static String signature(Method method) {
        StringBuilder told = new StringBuilder();
        told.append(method.getReturnType()).append(' ').append(method.getName()).append('(');
        for (Class<?> type : method.getParameterTypes()) {
            told.append(told.charAt(told.length() - 1) == '(' ? "" : ",").append(type);
        }
        return told.append(')').toString();
    }

    private static void face() {
        holds("the class is public and final", (NightNet.class.getModifiers() & 17) == 17);
        Set<String> seen = new TreeSet<>();
        for (Method method : NightNet.class.getDeclaredMethods()) {
            if (Modifier.isPrivate(method.getModifiers())) {
                continue;
            }
            holds("public, of the object: " + method, method.getModifiers() == Modifier.PUBLIC);
            seen.add(signature(method));
        }
        holds("rule 1: the face, " + seen, seen.equals(new TreeSet<>(Set.of(FACE))));
        Constructor<?>[] made = NightNet.class.getDeclaredConstructors();
        holds("rule 1: one constructor", made.length == 1 && made[0].getModifiers() == 1 && made[0].getParameterCount() == 0);
        Set<String> constants = new TreeSet<>();
        for (Field field : NightNet.class.getDeclaredFields()) {
            if (!Modifier.isPrivate(field.getModifiers())) {
                holds("public static final int: " + field, field.getModifiers() == 25 && field.getType() == int.class);
                constants.add(field.getName());
            }
        }
        holds("rule 1: constants", constants.equals(Set.of("UNKNOWN", "OUTSIDE", "STATE", "FULL", "NONE")));
    }

    private static void insides() {
        Set<String> names = new TreeSet<>();
        for (String signature : FACE) {
            names.add(signature.substring(signature.indexOf(' ') + 1, signature.indexOf('(')));
        }
        Class<?>[] inside = NightNet.class.getDeclaredClasses();
        holds("rule 11: classes", inside.length + 1 <= 12);
        holdsFields(NightNet.class);
        for (Method method : NightNet.class.getDeclaredMethods()) {
            boolean isPrivate = Modifier.isPrivate(method.getModifiers());
            holds("rule 1: name of " + method, !isPrivate || !names.contains(method.getName()));
        }
        for (Class<?> one : inside) {
            holds("rule 1: static and not public: " + one, Modifier.isStatic(one.getModifiers())
                && !Modifier.isPublic(one.getModifiers()) && !Modifier.isProtected(one.getModifiers()));
            holdsFields(one);
            for (Method method : one.getDeclaredMethods()) {
                holds("rule 1: name of " + method, !Modifier.isPrivate(method.getModifiers()) || !names.contains(method.getName()));
                holds("rule 6: name of " + method, one.isRecord() || !OF_OBJECTS.contains(signature(method)));
                holds("rule 11: parameters of " + method, method.getParameterCount() <= 7);
            }
        }
    }

    private static void holdsFields(Class<?> one) {
        int own = 0;
        for (Field field : one.getDeclaredFields()) {
            boolean isStatic = Modifier.isStatic(field.getModifiers());
            holds("rule 5: final if static: " + field, !isStatic || Modifier.isFinal(field.getModifiers()));
            own += isStatic ? 0 : 1;
        }
        holds("rule 11: fields of " + one, own <= 20);
    }

    private static String withoutComments(String source) {
        return source.replaceAll("(?s)/\\*.*?\\*/", "").replaceAll("//[^\n]*", "");
    }

    private static void words(String code) {
        String[] ruledOut = {
            "\\bpackage\\b", "\\bthrows?\\b", "\\btry\\b", "\\bcatch\\b", "\\bfinally\\b", "\\bsynchronized\\b",
            "\\bassert\\b", "::", "\\w+Exact\\b", "\\bObject\\b", "\\bThread\\b", "\\bRandom\\b", "\\bnative\\b",
            "\\bstatic \\{",
        };
        for (String word : ruledOut) {
            holds("no " + word, !Pattern.compile(word).matcher(code).find());
        }
        for (String line : code.split("\n")) {
            holds("rule 2: no lambda, " + line.trim(), !line.contains("->") || line.trim().matches("(case|default) .*"));
        }
        Matcher imported = Pattern.compile("\\bimport ([^;]*);").matcher(code);
        while (imported.find()) {
            String name = imported.group(1);
            holds("rule 4: import " + name, name.startsWith("java.util.") && IMPORTS.contains(name.substring(10)));
        }
        Matcher asked = Pattern.compile("\\b(Math|Integer|Long|System|Arrays|List|Runtime|Objects)\\.\\w+").matcher(code);
        while (asked.find()) {
            holds("rule 4: " + asked.group(), LISTED.matcher(asked.group()).matches());
        }
    }

    /** A method begins with a line that ends with ") {" and is no statement, and ends with a brace as far in. */
    private static void sizes(String source) {
        String[] lines = source.split("\n");
        for (int first = 0; first < lines.length; first++) {
            Matcher head = Pattern.compile("( {4}| {8})[a-zA-Z][\\w ]*\\(.*\\) \\{").matcher(lines[first]);
            if (!head.matches() || lines[first].trim().matches("(if|for|while|switch) .*")) {
                continue;
            }
            int last = first;
            while (last < lines.length - 1 && !lines[last].equals(head.group(1) + "}")) {
                last++;
            }
            holds("rule 11: short: " + lines[first].trim(), last - first < 60);
        }
    }
}
