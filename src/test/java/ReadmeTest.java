import java.io.IOException;
import java.lang.reflect.InvocationTargetException;
import java.net.URL;
import java.net.URLClassLoader;
import java.nio.file.Files;
import java.nio.file.Path;
import java.util.regex.Matcher;
import java.util.regex.Pattern;
import java.util.stream.Stream;
import javax.tools.ToolProvider;

/** The examples of README.md, one behind the other: each line with "// ->" answers what stands there. */
public final class ReadmeTest {
    private static final Pattern BLOCK = Pattern.compile("(?s)```java\n(.*?)```");
    private static final Pattern ANSWER = Pattern.compile("(?:int (\\w+) = )?(.*?); *// -> (-?\\w+).*");
    private static int answers;

    /** A program of all examples; those that are methods stand beside its main. */
    private static String program(String readme) {
        StringBuilder calls = new StringBuilder();
        StringBuilder methods = new StringBuilder();
        Matcher block = BLOCK.matcher(readme);
        while (block.find()) {
            if (block.group(1).startsWith("static ")) methods.append(block.group(1));
            else for (String line : block.group(1).split("\n")) calls.append(checked(line)).append('\n');
        }
        return "public final class Examples {\n    private static int wrong;\n" + methods
            + "static void due(Object got, Object want, String call) {\n"
            + "    if (!got.equals(want)) { wrong++; System.out.println(\"README: \" + call + \" answers \" + got + \", not \" + want); }\n}\n"
            + "public static int run() {\n" + calls + "    return wrong;\n}\n}\n";
    }

    private static String checked(String line) {
        Matcher answer = ANSWER.matcher(line);
        if (!answer.matches()) return line;
        answers++;
        String name = answer.group(1);
        String call = answer.group(2);
        String want = answer.group(3);
        String asked = name == null ? call : name;
        String type = call.startsWith("x.enough") ? "L" : "";
        return (name == null ? "" : "int " + name + " = " + call + "; ") + "due(" + asked + ", " + want + type + ", \"" + call + "\");";
    }

    private static void remove(Path folder) throws IOException {
        try (Stream<Path> all = Files.list(folder)) {
            for (Path file : all.toList()) Files.delete(file);
        }
        Files.delete(folder);
    }

    /** How many answers are not as they stand there. */
    private static int run(String program) throws IOException, ReflectiveOperationException {
        Path folder = Files.createTempDirectory("readme");
        try {
            Path source = Files.writeString(folder.resolve("Examples.java"), program);
            String classes = System.getProperty("java.class.path");
            if (ToolProvider.getSystemJavaCompiler().run(null, null, null, "-cp", classes, "-d", folder.toString(), source.toString()) != 0) return 1;
            try (URLClassLoader loader = new URLClassLoader(new URL[] {folder.toUri().toURL()})) {
                return (Integer) loader.loadClass("Examples").getMethod("run").invoke(null);
            }
        } finally {
            remove(folder);
        }
    }

    public static void main(String[] args) throws IOException, ReflectiveOperationException {
        int wrong;
        try {
            wrong = run(program(Files.readString(Path.of("README.md"))));
        } catch (InvocationTargetException e) {
            System.out.println("an example threw " + e.getCause());
            wrong = 1;
        }
        if (answers < 40) {
            System.out.println("README.md has just " + answers + " answers");
            wrong++;
        }
        System.out.println(answers + " answers in README.md, " + wrong + " not as they stand there");
        if (wrong != 0) System.exit(1);
    }
}
