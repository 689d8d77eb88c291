import java.io.IOException;
import java.lang.reflect.Method;
import java.lang.reflect.Modifier;
import java.net.URL;
import java.net.URLClassLoader;
import java.nio.file.Files;
import java.nio.file.Path;
import java.util.regex.Matcher;
import java.util.regex.Pattern;
import javax.tools.JavaCompiler;
import javax.tools.ToolProvider;

/**
 * README.md: its examples are compiled as one program and run, each answer that stands behind // is
 * asked for, and every call of the face is in an example.
 */
public final class ReadmeTest {
    private static final Check CHECK = new Check();
    private static final Path README = Path.of("README.md");
    private static final String PROGRAM = "ReadmeExamples";
    private static final Pattern BLOCK = Pattern.compile("```java\n(.*?)```", Pattern.DOTALL);
    private static final Pattern ANSWERED = Pattern.compile(
            "(?:int (\\w+) = )?(\\S.*); +// (-?[0-9]+|true|false)(?: .*)?");

    private static final StringBuilder METHODS = new StringBuilder();
    private static final StringBuilder STATEMENTS = new StringBuilder();
    private static int answers = 0;
    private static int asked = 0;

    public static void main(String[] args) throws Exception {
        String readme = Files.readString(README);
        collect(readme);
        everyCall();
        everyTest(readme);
        Path made = Files.createTempDirectory("readme");
        try {
            run(made);
        } finally {
            remove(made);
        }
        CHECK.due("answers that were asked for", asked, answers);
        CHECK.yes("there are answers", answers > 0);
        CHECK.end();
    }

    /** Called by the program that is made of the examples. */
    public static void due(String call, long got, long want) {
        asked++;
        CHECK.due("README: " + call, got, want);
    }

    public static void due(String call, boolean got, boolean want) {
        due(call, got ? 1 : 0, want ? 1 : 0);
    }

    private static void collect(String readme) {
        Matcher block = BLOCK.matcher(readme);
        while (block.find()) {
            String code = block.group(1);
            if (code.startsWith("static ")) {
                METHODS.append(code);
            } else {
                code.lines().forEach(ReadmeTest::addStatement);
            }
        }
    }

    private static void addStatement(String line) {
        Matcher answered = ANSWERED.matcher(line);
        if (!answered.matches()) {
            CHECK.no("an answer that can't be read: " + line, line.contains("//"));
            STATEMENTS.append(line).append('\n');
            return;
        }
        String name = answered.group(1);
        String call = answered.group(2);
        if (name != null) {
            STATEMENTS.append("int ").append(name).append(" = ").append(call).append(";\n");
        }
        STATEMENTS.append("ReadmeTest.due(\"").append(call.replace("\"", "\\\"")).append("\", ")
                .append(name == null ? call : name).append(", ").append(answered.group(3))
                .append(");\n");
        answers++;
    }

    private static void everyCall() {
        String code = METHODS.toString() + STATEMENTS;
        for (Method method : PitchSquare.class.getDeclaredMethods()) {
            if (Modifier.isPublic(method.getModifiers())) {
                CHECK.yes("an example has " + method.getName(),
                        code.contains("square." + method.getName() + "("));
            }
        }
    }

    /** The table of tests has each of them. */
    private static void everyTest(String readme) throws IOException {
        try (var files = Files.list(Path.of("src/test/java"))) {
            files.map(file -> file.getFileName().toString())
                    .filter(file -> file.endsWith("Test.java"))
                    .map(file -> "`" + file.replace(".java", "") + "`")
                    .forEach(test -> CHECK.yes("the tests' table has " + test,
                            readme.lines().anyMatch(line -> line.startsWith("|")
                                    && line.contains(test))));
        }
    }

    private static void run(Path made) throws Exception {
        Path source = made.resolve(PROGRAM + ".java");
        Files.writeString(source, "public final class " + PROGRAM + " {\n" + METHODS
                + "public static void run() {\n" + STATEMENTS + "}\n}\n");
        JavaCompiler compiler = ToolProvider.getSystemJavaCompiler();
        if (compiler == null) {
            CHECK.yes("this java has a compiler", false);
            return;
        }
        int result = compiler.run(null, null, null, "-d", made.toString(), "-cp",
                System.getProperty("java.class.path"), source.toString());
        CHECK.due("the compiler of README's examples", result, 0);
        if (result == 0) {
            URL[] place = {made.toUri().toURL()};
            try (URLClassLoader loader = new URLClassLoader(place)) {
                loader.loadClass(PROGRAM).getMethod("run").invoke(null);
            }
        }
    }

    private static void remove(Path made) throws IOException {
        try (var files = Files.list(made)) {
            for (Path file : (Iterable<Path>) files::iterator) {
                Files.delete(file);
            }
        }
        Files.delete(made);
    }
}
