import java.lang.reflect.Constructor;
import java.lang.reflect.Field;
import java.lang.reflect.Method;
import java.lang.reflect.Modifier;
import java.nio.file.Files;
import java.nio.file.Path;
import java.util.ArrayList;
import java.util.Arrays;
import java.util.List;
import java.util.TreeSet;
import java.util.regex.Matcher;
import java.util.regex.Pattern;

/** The public face, and the rules of LANGUAGE.md that a machine can see. */
public final class FaceTest {
    private static final String[] METHODS = {
        "int state(int)", "int word(int)", "int person(int)", "boolean set(int,int,int)",
        "boolean kin(int,int,boolean)", "boolean miles(int,int,int)", "int say(int,int)",
        "boolean move(int,int)", "boolean teach(int,int)", "boolean carve(int)", "int days(int)",
        "int feed(int,int,int,int,int)", "boolean end(int)", "int text(int)", "int fault(int)",
        "int of(int,int)", "int who(int,int)", "int asks(int,int,boolean)", "int book(int,int)",
        "int goes(int,int)", "int misses(int)", "int wording(int,int)", "int go(int)",
        "int keepers(int)", "int costs(int)", "int round(int,int,int)",
        "int quarrel(int,int,int,int)", "int talk(int,int)", "int spoke(boolean)",
        "int grasps(int,int)", "int circle(int)", "int odds(int,int)", "int school(int,int)",
        "int verse(int)", "int boast(int,int)", "int crowd(int)", "int silence(int)",
        "boolean undo()", "boolean image(boolean)", "int look(int)",
    };
    private static final Due DUE = new Due("FaceTest");

    public static void main(String[] args) throws Exception {
        face();
        members();
        source();
        DUE.close();
    }

    private static void face() throws Exception {
        DUE.part("the face");
        Class<?> c = UnsaidWords.class;
        DUE.is("public final", c.getModifiers(), Modifier.PUBLIC | Modifier.FINAL);
        TreeSet<String> due = new TreeSet<>(Arrays.asList(METHODS));
        TreeSet<String> got = new TreeSet<>();
        for (Method m : c.getDeclaredMethods()) {
            if (!Modifier.isPrivate(m.getModifiers())) {
                DUE.is("public, not static: " + m, m.getModifiers(), Modifier.PUBLIC);
                got.add(told(m));
            }
        }
        DUE.is("methods " + got, got.equals(due), true);
        for (Constructor<?> made : c.getDeclaredConstructors()) {
            DUE.is("constructor", made.getModifiers() == Modifier.PUBLIC && made.getParameterCount() == 0, true);
        }
        for (Field f : c.getDeclaredFields()) {
            if (!Modifier.isPrivate(f.getModifiers())) {
                DUE.is("field " + f, f.getName().equals("NONE") && f.getType() == int.class, true);
                DUE.is("field " + f, f.getModifiers(), Modifier.PUBLIC | Modifier.STATIC | Modifier.FINAL);
            }
        }
        DUE.is("NONE", UnsaidWords.NONE, -1);
    }

    private static String told(Method m) {
        StringBuilder types = new StringBuilder();
        for (Class<?> type : m.getParameterTypes()) {
            types.append(types.length() > 0 ? "," : "").append(type.getName());
        }
        return m.getReturnType().getName() + " " + m.getName() + "(" + types + ")";
    }

    private static void members() {
        DUE.part("the members");
        List<Class<?>> all = new ArrayList<>();
        all.add(UnsaidWords.class);
        all.addAll(Arrays.asList(UnsaidWords.class.getDeclaredClasses()));
        DUE.is("classes, twelve at most", all.size() <= 12, true);
        TreeSet<String> names = new TreeSet<>();
        for (String method : METHODS) {
            names.add(method.substring(method.indexOf(' ') + 1, method.indexOf('(')));
        }
        for (Class<?> c : all) {
            int fields = 0;
            for (Field f : c.getDeclaredFields()) {
                boolean isStatic = Modifier.isStatic(f.getModifiers());
                DUE.is("static is final: " + f, !isStatic || Modifier.isFinal(f.getModifiers()), true);
                fields += isStatic ? 0 : 1;
            }
            DUE.is("fields of " + c, fields <= 20, true);
            for (Method m : c.getDeclaredMethods()) {
                DUE.is("seven parameters at most: " + m, m.getParameterCount() <= 7, true);
                DUE.is("the compiler made none: " + m, m.isSynthetic(), false);
                boolean isFace = c == UnsaidWords.class && Modifier.isPublic(m.getModifiers());
                DUE.is("a name of the face: " + m, !isFace && names.contains(m.getName()), false);
            }
            DUE.is("static: " + c, c == UnsaidWords.class || Modifier.isStatic(c.getModifiers()), true);
            DUE.is("no class in a class in a class: " + c, c == UnsaidWords.class || c.getDeclaredClasses().length == 0, true);
        }
    }

    private static void source() throws Exception {
        DUE.part("the source");
        String text = Files.readString(Path.of("src/main/java/UnsaidWords.java"));
        String code = text.replaceAll("(?s)/\\*.*?\\*/", "").replaceAll("//[^\n]*", "");
        String bare = code.replaceAll("\"[^\"]*\"", "\"\"");
        String[] words = {"throw", "throws", "try", "catch", "synchronized", "assert", "import", "package",
            "->", "::", "System.exit", "System.nanoTime", "currentTimeMillis", "Random", "Thread",
            "equals", "hashCode", "toString", "Object", "instanceof", "volatile", "native"};
        for (String word : words) {
            String pattern = Character.isLetter(word.charAt(0)) ? "\\b" + Pattern.quote(word) + "\\b" : Pattern.quote(word);
            Matcher m = Pattern.compile(pattern).matcher(bare);
            DUE.is("no " + word, m.find(), false);
        }
        Matcher made = Pattern.compile("\\bnew\\s+[A-Za-z]+").matcher(bare);
        while (made.find()) {
            String before = bare.substring(0, made.start());
            String line = before.substring(before.lastIndexOf('\n') + 1);
            boolean isField = line.matches("        (private )?final [A-Za-z\\[\\]]+ [A-Za-z]+ = ");
            boolean isConstructors = line.matches("\\s+[A-Za-z\\[\\]]+ = ");
            DUE.is("made by a constructor alone: " + line + made.group(), isField || isConstructors, true);
        }
        DUE.is("texts are not joined by +", Pattern.compile("\"\"\\s*\\+|\\+\\s*\"\"").matcher(bare).find(), false);
        DUE.is("signs 1 to 127", text.chars().allMatch(c -> c < 128), true);
        longMethods(bare);
    }

    /** Methods begin with a line that ends with { and end with a } as deep as that line. */
    private static void longMethods(String code) {
        String[] lines = code.split("\n");
        for (int i = 0; i < lines.length; i++) {
            Matcher head = Pattern.compile("^( {4}| {8})\\S.*\\) \\{$").matcher(lines[i]);
            if (head.find()) {
                int end = i;
                while (end < lines.length && !lines[end].equals(head.group(1) + "}")) {
                    end++;
                }
                DUE.is("sixty lines at most: " + lines[i].trim(), end - i < 60, true);
            }
        }
    }
}
