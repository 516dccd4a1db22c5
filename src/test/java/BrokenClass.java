import java.io.ByteArrayOutputStream;
import java.io.IOException;
import java.io.InputStream;
import java.io.OutputStream;
import java.net.URI;
import java.util.HashMap;
import java.util.List;
import java.util.Map;
import javax.tools.ForwardingJavaFileManager;
import javax.tools.JavaCompiler;
import javax.tools.JavaFileManager;
import javax.tools.JavaFileObject;
import javax.tools.SimpleJavaFileObject;
import javax.tools.ToolProvider;

/** A NightNet of another source, with tests of its own around it; nothing is written to a file. */
final class BrokenClass extends ClassLoader {
    private final Map<String, byte[]> compiled;

    private BrokenClass(Map<String, byte[]> compiled) {
        super(ClassLoader.getPlatformClassLoader());
        this.compiled = compiled;
    }

    static boolean canBeMade() {
        return ToolProvider.getSystemJavaCompiler() != null;
    }

    /** Null if it does not compile. */
    static BrokenClass of(String source) {
        JavaCompiler compiler = ToolProvider.getSystemJavaCompiler();
        InMemory files = new InMemory(compiler);
        List<JavaFileObject> sources = List.of(new Source(source));
        boolean isCompiled = compiler.getTask(null, files, null, List.of("-proc:none", "-g:none"), null, sources).call();
        return isCompiled ? new BrokenClass(files.bytes()) : null;
    }

    boolean holds(String className, String testName) throws ReflectiveOperationException {
        var asked = loadClass("Sentences").getDeclaredMethod("holds", String.class, String.class);
        asked.setAccessible(true);
        return (boolean) asked.invoke(null, className, testName);
    }

    @Override
    protected Class<?> findClass(String name) throws ClassNotFoundException {
        byte[] bytes = compiled.containsKey(name) ? compiled.get(name) : ofTheTests(name);
        return defineClass(name, bytes, 0, bytes.length);
    }

    private static byte[] ofTheTests(String name) throws ClassNotFoundException {
        try (InputStream file = BrokenClass.class.getResourceAsStream("/" + name.replace('.', '/') + ".class")) {
            if (file == null) {
                throw new ClassNotFoundException(name);
            }
            return file.readAllBytes();
        } catch (IOException e) {
            throw new ClassNotFoundException(name, e);
        }
    }

    private static final class Source extends SimpleJavaFileObject {
        private final String text;

        Source(String text) {
            super(URI.create("string:///NightNet.java"), Kind.SOURCE);
            this.text = text;
        }

        @Override
        public CharSequence getCharContent(boolean ignoreEncodingErrors) {
            return text;
        }
    }

    private static final class Target extends SimpleJavaFileObject {
        private final ByteArrayOutputStream bytes = new ByteArrayOutputStream();

        Target(String name) {
            super(URI.create("string:///" + name + ".class"), Kind.CLASS);
        }

        @Override
        public OutputStream openOutputStream() {
            return bytes;
        }
    }

    private static final class InMemory extends ForwardingJavaFileManager<JavaFileManager> {
        private final Map<String, Target> targets = new HashMap<>();

        InMemory(JavaCompiler compiler) {
            super(compiler.getStandardFileManager(null, null, null));
        }

        @Override
        public JavaFileObject getJavaFileForOutput(Location at, String name, JavaFileObject.Kind kind,
                javax.tools.FileObject sibling) {
            return targets.computeIfAbsent(name, Target::new);
        }

        Map<String, byte[]> bytes() {
            Map<String, byte[]> all = new HashMap<>();
            targets.forEach((name, target) -> all.put(name, target.bytes.toByteArray()));
            return all;
        }
    }
}
