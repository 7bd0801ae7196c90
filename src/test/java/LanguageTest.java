import java.io.IOException;
import java.lang.reflect.Constructor;
import java.lang.reflect.Field;
import java.lang.reflect.Method;
import java.lang.reflect.Modifier;
import java.nio.file.Files;
import java.nio.file.Path;
import java.util.ArrayList;
import java.util.List;
import java.util.TreeSet;
import java.util.regex.Matcher;
import java.util.regex.Pattern;

/** The face of the class as the document has it, and those rules of LANGUAGE.md that can be told from the source. */
public final class LanguageTest {
    private static final String[] FACE = {
        "int days(int)", "int piece(int, int, int, int, int)", "boolean marks(int, int, int, int, boolean, int)",
        "int face(int, int, long, int)", "int feed(long, long, long)", "int text()", "boolean near(int)",
        "int meet(int, int, int) throws", "int candidate(int, int)", "int join(int, int)", "boolean part(int)",
        "int joined(int, int) throws", "int look(int, int) throws", "int of(int, int) throws", "int asOf(int, int)",
        "boolean cuts(int, int, int)", "int cobble(int, int) throws", "int blow(int, int)",
        "int seat(int, int, int) throws", "int foot(int, int, int)", "int hour(int)", "int hands(int, int)",
        "int blind(boolean)", "int count(int)"};

    private LanguageTest() {
    }

    public static void main(String[] args) throws IOException {
        theFace();
        noPrivateNameOfTheFace();
        Path source = Path.of(System.getProperty("main.source", "src/main/java/FlintHeap.java"));
        theSource(withoutComments(Files.readString(source)));
        Check.end("LanguageTest");
    }

    private static void theFace() {
        TreeSet<String> due = new TreeSet<>(List.of(FACE));
        TreeSet<String> got = new TreeSet<>();
        for (Method m : FlintHeap.class.getDeclaredMethods()) {
            if (!Modifier.isPrivate(m.getModifiers())) {
                Check.due(m + " is public", Modifier.isPublic(m.getModifiers()), true);
                got.add(words(m));
            }
        }
        Check.due("the face is " + got + ", due is " + due, got.equals(due), true);
        for (Field f : FlintHeap.class.getDeclaredFields()) {
            boolean isNone = f.getName().equals("NONE");
            Check.due(f + " is private", Modifier.isPrivate(f.getModifiers()), !isNone);
            Check.due(f + " is no static state", Modifier.isStatic(f.getModifiers()) && !Modifier.isFinal(f.getModifiers()),
                    false);
        }
        Constructor<?>[] constructors = FlintHeap.class.getDeclaredConstructors();
        Check.due("constructors", constructors.length, 1);
        Check.due("it takes nothing", constructors[0].getParameterCount(), 0);
        Check.due("it is public", Modifier.isPublic(constructors[0].getModifiers()), true);
        Check.due("the class is public and final", FlintHeap.class.getModifiers() & (Modifier.PUBLIC | Modifier.FINAL),
                Modifier.PUBLIC | Modifier.FINAL);
    }

    private static String words(Method m) {
        List<String> types = new ArrayList<>();
        for (Class<?> type : m.getParameterTypes()) {
            types.add(type.getName());
        }
        boolean throwsNoSuch = m.getExceptionTypes().length == 1
                && m.getExceptionTypes()[0] == java.util.NoSuchElementException.class;
        return m.getReturnType().getName() + " " + m.getName() + "(" + String.join(", ", types) + ")"
                + (throwsNoSuch ? " throws" : "");
    }

    private static void noPrivateNameOfTheFace() {
        TreeSet<String> names = new TreeSet<>();
        for (String line : FACE) {
            names.add(line.replaceAll(".* (\\w+)\\(.*", "$1"));
        }
        Class<?>[] inside = FlintHeap.class.getDeclaredClasses();
        Check.due("some twelve classes at most", inside.length <= 11, true);
        for (Class<?> c : inside) {
            Check.due(c + " is static", Modifier.isStatic(c.getModifiers()), true);
            int fields = 0;
            for (Field f : c.getDeclaredFields()) {
                fields += Modifier.isStatic(f.getModifiers()) ? 0 : 1;
            }
            Check.due(c + " has some twenty fields at most", fields <= 20, true);
            for (Method m : c.getDeclaredMethods()) {
                Check.due(m + " bears no name of the face", names.contains(m.getName()), false);
                Check.due(m + " has seven parameters at most", m.getParameterCount() <= 7, true);
            }
        }
        for (Method m : FlintHeap.class.getDeclaredMethods()) {
            if (Modifier.isPrivate(m.getModifiers())) {
                Check.due(m + " bears no name of the face", names.contains(m.getName()), false);
            }
        }
    }

    private static String withoutComments(String source) {
        return source.replaceAll("(?s)/\\*.*?\\*/", "").replaceAll("//[^\\n]*", "");
    }

    private static void theSource(String source) {
        String[] forbidden = {"->", "::", "\\bfinally\\b", "\\bsynchronized\\b", "\\bassert\\b", "\\bcatch\\b",
            "\\btry\\b", "\\bpackage\\b", "\\binstanceof\\b", "\\bdouble\\b", "\\bfloat\\b", "Exact\\b", "\\bSystem\\.",
            "\\bnative\\b", "\\bvolatile\\b", "\\btransient\\b", "\" *\\+", "\\+ *\"", "\\bprotected\\b",
            "static *\\{", "\\bThread\\b", "\\bvar\\b"};
        for (String pattern : forbidden) {
            Check.due("the source has no " + pattern, Pattern.compile(pattern).matcher(source).find(), false);
        }
        Matcher imports = Pattern.compile("\\bimport ([\\w.]+)").matcher(source);
        while (imports.find()) {
            Check.due("import " + imports.group(1), imports.group(1).equals("java.util.NoSuchElementException"), true);
        }
        Matcher thrown = Pattern.compile("throw new (\\w+)").matcher(source);
        while (thrown.find()) {
            Check.due("throw of " + thrown.group(1), thrown.group(1).equals("NoSuchElementException"), true);
        }
        Matcher math = Pattern.compile("\\b(Math|Integer|Long|Arrays)\\.(\\w+)").matcher(source);
        while (math.find()) {
            // Rule 4 lists "the static functions of Integer, Long and Math", so their constants are not in it.
            Check.due("rule 4: use of " + math.group(), List.of("max", "min").contains(math.group(2)), true);
        }
        methodsStayShort(source);
    }

    private static void methodsStayShort(String source) {
        int since = 0;
        int line = 0;
        for (String text : source.split("\n")) {
            line++;
            if (text.matches(" {4,8}(public|private|static|final|int|long|boolean|void).*\\) .*\\{")) {
                since = line;
            }
            if (text.matches(" {4,8}\\}")) {
                Check.due("a method of at most sixty lines ends at " + line, since == 0 || line - since <= 60, true);
                since = 0;
            }
        }
    }
}
