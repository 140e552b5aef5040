import java.io.File;
import java.lang.reflect.Method;
import java.lang.reflect.Modifier;
import java.net.URL;
import java.net.URLClassLoader;
import java.nio.file.Files;
import java.nio.file.Path;
import java.util.ArrayList;
import java.util.List;
import java.util.regex.Matcher;
import java.util.regex.Pattern;
import javax.tools.ToolProvider;

/** The Java of README.md compiles, and each call in it answers what stands behind it. */
public final class ReadmeTest {
    /** The last line of a statement, with the answer that is due behind it, if one is told. */
    private static final Pattern ENDS_STATEMENT = Pattern.compile("(.*);(?:\\s*// (.*?)(?:: .*)?)?");

    private static final List<String> helpers = new ArrayList<>();
    private static final List<String> statements = new ArrayList<>();
    private static final List<String> calls = new ArrayList<>();

    public static void main(String[] args) throws Exception {
        Checks.sentence("README.md: the calls and their answers");
        readBlocks(Files.readAllLines(Path.of("README.md")));
        Path made = Files.createTempDirectory("readme");
        try {
            tryExample(made);
        } finally {
            for (File file : made.toFile().listFiles()) {
                file.delete();
            }
            Files.delete(made);
        }
        dueEachCallTried();
        Checks.end();
    }

    private static void readBlocks(List<String> lines) {
        for (int i = 0; i < lines.size(); i++) {
            if (!lines.get(i).equals("```java")) {
                continue;
            }
            List<String> block = new ArrayList<>();
            for (i++; !lines.get(i).equals("```"); i++) {
                block.add(lines.get(i));
            }
            if (block.stream().anyMatch(line -> line.startsWith("static "))) {
                helpers.addAll(block);
            } else {
                readStatements(block);
            }
        }
    }

    private static void readStatements(List<String> block) {
        String begun = "";
        for (String line : block) {
            Matcher end = ENDS_STATEMENT.matcher(line);
            if (!end.matches()) {
                begun += begun.isEmpty() && line.isBlank() ? "" : line + "\n";
                continue;
            }
            String statement = begun + end.group(1);
            begun = "";
            if (end.group(2) == null) {
                statements.add(statement + ";");
            } else {
                statements.add("due(" + end.group(2) + ", " + statement + ");");
                calls.add(statement);
            }
        }
        Checks.due("what is no whole statement", "", begun);
    }

    private static void tryExample(Path made) throws Exception {
        Path source = made.resolve("ReadmeExample.java");
        Files.write(source, example());
        int ended = ToolProvider.getSystemJavaCompiler().run(null, System.out, System.out,
            "-cp", System.getProperty("java.class.path"), "-d", made.toString(), source.toString());
        Checks.due("javac of the Java in README.md", 0, ended);
        if (ended == 0) {
            dueAnswers(made);
        }
    }

    private static List<String> example() {
        List<String> lines = new ArrayList<>();
        lines.add("public final class ReadmeExample {");
        lines.add("static final int NONE = TestFinder.NONE;");
        lines.add("static final java.util.List<String> told = new java.util.ArrayList<>();");
        for (String type : new String[] {"long", "boolean", "String"}) {
            lines.add("static void due(" + type + " want, " + type + " got) {");
            lines.add("told.add(String.valueOf(want)); told.add(String.valueOf(got)); }");
        }
        lines.addAll(helpers);
        lines.add("public static java.util.List<String> answers() {");
        lines.addAll(statements);
        lines.add("return told; } }");
        return lines;
    }

    private static void dueAnswers(Path made) throws Exception {
        URL[] places = {made.toUri().toURL()};
        try (URLClassLoader loader = new URLClassLoader(places, ReadmeTest.class.getClassLoader())) {
            Object told = loader.loadClass("ReadmeExample").getMethod("answers").invoke(null);
            List<?> answers = (List<?>) told;
            Checks.due("answers told", 2L * calls.size(), answers.size());
            for (int i = 0; i < calls.size(); i++) {
                Checks.due(calls.get(i), (String) answers.get(2 * i), (String) answers.get(2 * i + 1));
            }
        }
    }

    /** A call that the face has and README.md does not try is one that it does not tell the use of. */
    private static void dueEachCallTried() {
        for (Method m : TestFinder.class.getDeclaredMethods()) {
            if (Modifier.isPublic(m.getModifiers())) {
                String begin = "finder." + m.getName() + "(";
                Checks.due(begin + "..) is tried", true, calls.stream().anyMatch(c -> c.startsWith(begin)));
            }
        }
    }
}
