import java.io.IOException;
import java.lang.reflect.Method;
import java.lang.reflect.Modifier;
import java.nio.charset.StandardCharsets;
import java.nio.file.Files;
import java.nio.file.Path;
import java.util.regex.Matcher;
import java.util.regex.Pattern;
import javax.tools.JavaCompiler;
import javax.tools.ToolProvider;

/**
 * README.md tells the truth: its examples of Java compile, each call in them answers the number that
 * stands behind it, and each call of the class is named.
 */
public final class ReadmeTest {
    private static final Pattern EXAMPLE = Pattern.compile("```java\n(.*?)```", Pattern.DOTALL);
    private static final Pattern ANSWER = Pattern.compile("(?:int (\\w+) = )?(.*); +// (-?\\d+)\\b.*");
    private static int failed = 0;

    public static void main(String[] args) throws IOException, InterruptedException {
        String readme = Files.readString(Path.of("README.md"), StandardCharsets.UTF_8);
        namesEachCall(readme);
        hasTrueExamples(readme);
        if (failed > 0) {
            System.exit(1);
        }
        System.out.println("README.md is true");
    }

    private static void fail(String words) {
        failed++;
        System.out.println(words);
    }

    private static void namesEachCall(String readme) {
        for (Method method : SheetNames.class.getDeclaredMethods()) {
            if (Modifier.isPublic(method.getModifiers())
                    && !readme.contains("`" + method.getName() + "`")) {
                fail("README.md does not name " + method.getName());
            }
        }
    }

    private static void hasTrueExamples(String readme) throws IOException, InterruptedException {
        StringBuilder body = new StringBuilder();
        int answers = 0;
        Matcher examples = EXAMPLE.matcher(readme);
        while (examples.find()) {
            for (String line : examples.group(1).split("\n")) {
                Matcher answer = ANSWER.matcher(line);
                if (answer.matches()) {
                    answers++;
                    body.append(lookedAt(answer));
                } else {
                    body.append(line).append('\n');
                }
            }
        }
        if (answers < 20) {
            fail("README.md has only " + answers + " answers in its examples");
        }
        compileAndRun(body.toString());
    }

    /** The line of an example, with a look at the number that stands behind it. */
    private static String lookedAt(Matcher answer) {
        String call = answer.group(2);
        String look = "due(\"" + call + "\", " + (answer.group(1) == null ? call : answer.group(1));
        String before = answer.group(1) == null ? "" : "int " + answer.group(1) + " = " + call + ";\n";
        return before + look + ", " + answer.group(3) + ");\n";
    }

    private static void compileAndRun(String body) throws IOException, InterruptedException {
        Path place = Files.createTempDirectory("readme");
        Path file = place.resolve("Example.java");
        place.toFile().deleteOnExit();
        file.toFile().deleteOnExit();
        place.resolve("Example.class").toFile().deleteOnExit();
        Files.writeString(file, "public final class Example {\n"
                + "static int wrong = 0;\n"
                + "static void due(String call, long got, long want) {\n"
                + "if (got != want) { wrong++;\n"
                + "System.out.println(call + \" is \" + got + \", README.md says \" + want); } }\n"
                + "public static void main(String[] args) {\n" + body
                + "if (wrong > 0) System.exit(1);\n} }\n");
        JavaCompiler compiler = ToolProvider.getSystemJavaCompiler();
        String path = System.getProperty("java.class.path");
        if (compiler.run(null, null, null, "-cp", path, "-d", place.toString(), file.toString()) != 0) {
            fail("README.md's examples do not compile");
            return;
        }
        String java = Path.of(System.getProperty("java.home"), "bin", "java").toString();
        String both = path + System.getProperty("path.separator") + place;
        if (new ProcessBuilder(java, "-cp", both, "Example").inheritIO().start().waitFor() != 0) {
            fail("README.md's examples are not true");
        }
    }
}
