import java.io.ByteArrayOutputStream;
import java.io.IOException;
import java.io.OutputStream;
import java.io.PrintStream;
import java.lang.reflect.Method;
import java.net.URI;
import java.net.URL;
import java.net.URLClassLoader;
import java.nio.file.Files;
import java.nio.file.Path;
import java.util.ArrayList;
import java.util.LinkedHashMap;
import java.util.List;
import java.util.Map;
import java.util.TreeSet;
import java.util.stream.Collectors;
import javax.tools.FileObject;
import javax.tools.ForwardingJavaFileManager;
import javax.tools.JavaCompiler;
import javax.tools.JavaFileManager;
import javax.tools.JavaFileObject;
import javax.tools.SimpleJavaFileObject;
import javax.tools.ToolProvider;

/**
 * Tests the tests of sentences: src/test/breaks.txt tells for each sentence how the class can be
 * changed so that it does not hold, and the sentence's own test must fail then. It is no part of
 * .ci/run, for it follows the class's text; README.md says how it is run.
 */
public final class Breaks {
    private static final Path SOURCE = Path.of("src/main/java/UnsaidWords.java");
    private static final Path LIST = Path.of("src/test/breaks.txt");

    /** One change of the class's text, for one sentence. */
    private static final class Break {
        String section;
        String quote;
        String old;
        String changed;
        String answer = "";
    }

    public static void main(String[] args) throws Exception {
        String source = inOneLine(Files.readString(SOURCE).replaceAll("//[^\n]*", ""));
        List<Break> breaks = read(Files.readAllLines(LIST));
        PrintStream out = System.out;
        System.setOut(new PrintStream(OutputStream.nullOutputStream()));
        breaks.parallelStream().forEach(b -> b.answer = answer(source, b));
        System.setOut(out);
        int wrong = 0;
        for (Break b : breaks) {
            if (!b.answer.isEmpty()) {
                wrong++;
                out.println(b.section + " \"" + b.quote + "\": " + b.answer + "\n    - " + b.old + "\n    + " + b.changed);
            }
        }
        List<String> unbroken = unbroken(breaks);
        out.println(breaks.size() + " breaks, " + wrong + " unseen; " + unbroken.size() + " sentences without a break");
        unbroken.forEach(one -> out.println("    " + one));
        if (wrong > 0) {
            System.exit(1);
        }
    }

    private static String inOneLine(String text) {
        return text.replaceAll("\\s+", " ");
    }

    private static List<Break> read(List<String> lines) {
        List<Break> breaks = new ArrayList<>();
        String head = "";
        for (String line : lines) {
            if (line.startsWith("@ ")) {
                head = line.substring(2);
            } else if (line.startsWith("- ")) {
                Break b = new Break();
                b.section = head.substring(0, head.indexOf(" | "));
                b.quote = head.substring(head.indexOf(" | ") + 3);
                b.old = line.substring(2);
                breaks.add(b);
            } else if (line.startsWith("+")) {
                breaks.get(breaks.size() - 1).changed = line.substring(1).trim();
            }
        }
        return breaks;
    }

    private static List<String> unbroken(List<Break> breaks) {
        TreeSet<String> broken = breaks.stream().map(b -> b.section + " " + b.quote).collect(Collectors.toCollection(TreeSet::new));
        List<String> unbroken = new ArrayList<>();
        Edges edges = Edges.all();
        for (int i = 0; i < edges.count(); i++) {
            String name = edges.section(i) + " " + edges.quote(i);
            if (!broken.contains(name)) {
                unbroken.add(name);
            }
        }
        return unbroken;
    }

    /** Nothing if the sentence's test sees the break; else what is wrong. */
    private static String answer(String source, Break b) {
        int at = source.indexOf(b.old);
        if (at < 0 || source.indexOf(b.old, at + 1) >= 0) {
            return at < 0 ? "stands nowhere in the class" : "stands more than once in the class";
        }
        Map<String, byte[]> classes = compiled(source.substring(0, at) + b.changed + source.substring(at + b.old.length()));
        if (classes.isEmpty()) {
            return "does not compile";
        }
        try (Loader loader = new Loader(classes)) {
            Object edges = call(loader.loadClass("Edges"), "all", null);
            int count = (int) call(edges.getClass(), "count", edges);
            for (int i = 0; i < count; i++) {
                if (call(edges.getClass(), "section", edges, i).equals(b.section) && call(edges.getClass(), "quote", edges, i).equals(b.quote)) {
                    return (boolean) call(edges.getClass(), "holds", edges, i) ? "is not seen" : "";
                }
            }
            return "there is no such sentence";
        } catch (ReflectiveOperationException | IOException thrown) {
            return "can't be run: " + thrown;
        }
    }

    private static Object call(Class<?> type, String name, Object of, Object... numbers) throws ReflectiveOperationException {
        Method method = numbers.length == 0 ? type.getDeclaredMethod(name) : type.getDeclaredMethod(name, int.class);
        method.setAccessible(true);
        return method.invoke(of, numbers);
    }

    private static Map<String, byte[]> compiled(String source) {
        JavaCompiler compiler = ToolProvider.getSystemJavaCompiler();
        Map<String, ByteArrayOutputStream> made = new LinkedHashMap<>();
        JavaFileManager files = new ForwardingJavaFileManager<>(compiler.getStandardFileManager(null, null, null)) {
            @Override
            public JavaFileObject getJavaFileForOutput(Location where, String name, JavaFileObject.Kind kind, FileObject near) {
                return new SimpleJavaFileObject(URI.create("made:///" + name + ".class"), kind) {
                    @Override
                    public OutputStream openOutputStream() {
                        made.put(name, new ByteArrayOutputStream());
                        return made.get(name);
                    }
                };
            }
        };
        JavaFileObject text = new SimpleJavaFileObject(URI.create("made:///UnsaidWords.java"), JavaFileObject.Kind.SOURCE) {
            @Override
            public CharSequence getCharContent(boolean lenient) {
                return source;
            }
        };
        boolean good = compiler.getTask(null, files, told -> { }, List.of("-proc:none"), null, List.of(text)).call();
        Map<String, byte[]> classes = new LinkedHashMap<>();
        if (good) {
            made.forEach((name, bytes) -> classes.put(name, bytes.toByteArray()));
        }
        return classes;
    }

    /** The tests' classes once more, with the changed class among them. */
    private static final class Loader extends URLClassLoader {
        private final Map<String, byte[]> classes;

        Loader(Map<String, byte[]> classes) {
            super(new URL[] {Breaks.class.getProtectionDomain().getCodeSource().getLocation()}, ClassLoader.getPlatformClassLoader());
            this.classes = classes;
        }

        @Override
        protected Class<?> findClass(String name) throws ClassNotFoundException {
            byte[] bytes = classes.get(name);
            return bytes == null ? super.findClass(name) : defineClass(name, bytes, 0, bytes.length);
        }
    }
}
