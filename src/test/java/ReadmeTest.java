import java.lang.reflect.Method;
import java.lang.reflect.Modifier;
import java.nio.file.Files;
import java.nio.file.Path;
import java.util.ArrayList;
import java.util.List;
import java.util.regex.Matcher;
import java.util.regex.Pattern;
import javax.tools.ToolProvider;

/** README.md tells the truth: its example answers what the comments say, and every call of the class has its row. */
public final class ReadmeTest {
    private static final Pattern LINE = Pattern.compile("(?:int (\\w+) = )?(x\\.\\w+\\(.*\\)); *// (-?\\w+): .+");
    private static final String FIRST_LINE = "TouchSelect x = new TouchSelect();";
    private static int wrong = 0;

    public static void main(String[] args) throws Exception {
        if (args.length == 0) {
            say("the path of TouchSelect.java is not told");
        } else {
            Path root = Path.of(args[0]).toAbsolutePath().getParent().resolve("../../..");
            String readme = Files.readString(root.resolve("README.md"));
            example(readme);
            rows(readme);
            tests(readme, root.resolve("src/test/java"));
        }
        System.out.println(wrong == 0 ? "the readme is true" : wrong + " faults in the readme");
        if (wrong != 0) {
            System.exit(1);
        }
    }

    /** The example's own program calls this too. */
    public static void due(String call, Object got, String want) {
        if (!String.valueOf(got).equals(want)) {
            say(call + " answered " + got + ", the readme says " + want);
        }
    }

    private static void say(String fault) {
        wrong++;
        System.out.println(fault);
    }

    private static void example(String readme) throws Exception {
        int start = readme.indexOf("```java\n");
        int end = readme.indexOf("\n```\n", start);
        if (start < 0 || end < 0) {
            say("there is no example");
            return;
        }
        StringBuilder body = new StringBuilder();
        for (String line : readme.substring(start + "```java\n".length(), end).split("\n")) {
            body.append(checked(line)).append('\n');
        }
        run("public class Example { public static void run() {\n" + body + "} }\n");
    }

    private static String checked(String line) {
        if (line.isEmpty() || line.equals(FIRST_LINE)) {
            return line;
        }
        Matcher parts = LINE.matcher(line);
        if (!parts.matches()) {
            say("a line of the example tells no answer: " + line);
            return "";
        }
        String name = parts.group(1);
        String call = parts.group(2);
        String kept = name == null ? "" : "int " + name + " = " + call + "; ";
        String value = name == null ? call : name;
        return kept + "ReadmeTest.due(\"" + call + "\", " + value + ", \"" + parts.group(3) + "\");";
    }

    private static void run(String program) throws Exception {
        // Beside the test's own classes, so that the example runs on the same ones.
        Path classes = Path.of(ReadmeTest.class.getProtectionDomain().getCodeSource().getLocation().toURI());
        Path source = classes.resolve("Example.java");
        Files.writeString(source, program);
        int failed = ToolProvider.getSystemJavaCompiler().run(null, null, null,
            "-cp", classes.toString(), "-d", classes.toString(), source.toString());
        if (failed != 0) {
            say("the example does not compile");
            return;
        }
        Class.forName("Example").getMethod("run").invoke(null);
    }

    private static void rows(String readme) {
        for (Method method : TouchSelect.class.getDeclaredMethods()) {
            if (!Modifier.isPublic(method.getModifiers())) {
                continue;
            }
            Matcher row = Pattern.compile("(?m)^\\| `" + method.getName() + "\\((.*?)\\)` \\|").matcher(readme);
            if (!row.find() || row.group(1).split(", ").length != method.getParameterCount()) {
                say("no row tells of " + method.getName() + " with all it takes");
            }
        }
    }

    private static void tests(String readme, Path directory) throws Exception {
        List<Path> files = new ArrayList<>();
        try (var all = Files.newDirectoryStream(directory, "*.java")) {
            all.forEach(files::add);
        }
        for (Path file : files) {
            String name = file.getFileName().toString().replace(".java", "");
            if (!readme.contains("`" + name + "`")) {
                say("the readme does not name " + name);
            }
        }
    }
}
