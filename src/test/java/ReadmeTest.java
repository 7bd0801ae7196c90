import java.io.File;
import java.io.IOException;
import java.lang.reflect.InvocationTargetException;
import java.net.URL;
import java.net.URLClassLoader;
import java.nio.file.Files;
import java.nio.file.Path;
import java.util.ArrayList;
import java.util.List;
import java.util.TreeSet;
import java.util.regex.Matcher;
import java.util.regex.Pattern;
import java.util.stream.Stream;
import javax.tools.ToolProvider;

/** README.md: each answer that its examples tell is the class's, and it has each call of the face and each test. */
public final class ReadmeTest {
    private static final Pattern ASKED =
            Pattern.compile("(?:(?:int|boolean) (\\w+) = )?(.*);\\s*// (-?\\d+|true|false|NoSuchElementException)\\b.*");

    private final List<String> rows = new ArrayList<>();
    private final List<String> due = new ArrayList<>();
    private final StringBuilder members = new StringBuilder();
    private final StringBuilder body = new StringBuilder();

    private ReadmeTest() {
    }

    public static void main(String[] args) throws IOException, ReflectiveOperationException {
        String page = Files.readString(Path.of("README.md"));
        String document = Files.readString(Path.of(System.getProperty("document", "../shared/DOC.md")));
        ReadmeTest test = new ReadmeTest();
        test.takeExamples(page);
        test.runExamples();
        callsOfTheFace(page, document);
        testsOfTheProject(page);
        Check.end("ReadmeTest");
    }

    private void takeExamples(String page) {
        Matcher block = Pattern.compile("(?s)```java\\n(.*?)```").matcher(page);
        while (block.find()) {
            if (block.group(1).startsWith("static ")) {
                members.append(block.group(1));
            } else {
                block.group(1).lines().forEach(this::takeRow);
            }
        }
        Check.due("the page has examples", rows.size() > 50, true);
    }

    private void takeRow(String row) {
        Matcher asked = ASKED.matcher(row);
        if (!asked.matches()) {
            Check.due("README.md tells an answer to each call: " + row, row.contains("heap."), false);
            body.append(row).append('\n');
            return;
        }
        rows.add(row.replaceAll("\\s+", " "));
        due.add(asked.group(3));
        if (asked.group(1) != null) {
            body.append("int ").append(asked.group(1)).append(" = ").append(asked.group(2)).append(";\n");
            body.append("got.add(\"\" + ").append(asked.group(1)).append(");\n");
        } else {
            body.append("try { got.add(\"\" + ").append(asked.group(2)).append("); }\n");
            body.append("catch (java.util.NoSuchElementException e) { got.add(\"NoSuchElementException\"); }\n");
        }
    }

    private void runExamples() throws IOException, ReflectiveOperationException {
        Path work = Files.createTempDirectory("readme");
        Path source = work.resolve("Examples.java");
        Files.writeString(source, "public final class Examples {\n" + members
                + "public static java.util.List<String> answers() {\n"
                + "java.util.List<String> got = new java.util.ArrayList<>();\n" + body + "return got;\n}\n}\n");
        int code = ToolProvider.getSystemJavaCompiler().run(null, null, null, "-proc:none", "-d", work.toString(), "-cp",
                System.getProperty("java.class.path"), source.toString());
        Check.due("the examples compile", code, 0);
        if (code == 0) {
            holdAgainst(answersOf(work));
        }
        remove(work);
    }

    private static List<?> answersOf(Path work) throws IOException, ReflectiveOperationException {
        try (URLClassLoader loader = new URLClassLoader(new URL[] {work.toUri().toURL()})) {
            return (List<?>) loader.loadClass("Examples").getMethod("answers").invoke(null);
        } catch (InvocationTargetException e) {
            Check.due("the examples throw " + e.getCause(), true, false);
            return List.of();
        }
    }

    private void holdAgainst(List<?> got) {
        Check.due("answers of the examples", got.size(), rows.size());
        for (int i = 0; i < got.size() && i < rows.size(); i++) {
            boolean alike = got.get(i).equals(due.get(i));
            Check.due(rows.get(i) + " (the class: " + got.get(i) + ") is right", alike, true);
        }
    }

    private static void remove(Path work) {
        File[] files = work.toFile().listFiles();
        for (File file : files == null ? new File[0] : files) {
            file.delete();
        }
        work.toFile().delete();
    }

    /** Each call stands there as the document has it, and has an example. */
    private static void callsOfTheFace(String page, String document) {
        Matcher call = Pattern.compile("public ((?:int|boolean) (\\w+)\\([^)]*\\))").matcher(document);
        int calls = 0;
        while (call.find()) {
            calls++;
            Check.due("README.md has " + call.group(1), page.contains("- `" + call.group(1) + "`: "), true);
            Check.due("README.md has an example of " + call.group(2), page.contains("heap." + call.group(2) + "("), true);
        }
        Check.due("calls of the document's face", calls, 24);
    }

    private static void testsOfTheProject(String page) throws IOException {
        TreeSet<String> told = new TreeSet<>();
        Matcher line = Pattern.compile("(?m)^- `(\\w+Test)`: ").matcher(page);
        while (line.find()) {
            told.add(line.group(1));
        }
        TreeSet<String> there = new TreeSet<>();
        try (Stream<Path> files = Files.list(Path.of("src/test/java"))) {
            files.map(file -> file.getFileName().toString()).filter(name -> name.endsWith("Test.java"))
                    .forEach(name -> there.add(name.replace(".java", "")));
        }
        Check.due("README.md tells the tests " + told + ", there are " + there, told.equals(there), true);
    }
}
