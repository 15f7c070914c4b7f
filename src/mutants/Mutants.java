import java.io.ByteArrayOutputStream;
import java.io.IOException;
import java.io.OutputStream;
import java.io.PrintStream;
import java.lang.reflect.Field;
import java.lang.reflect.Method;
import java.net.URI;
import java.nio.file.Files;
import java.nio.file.Path;
import java.util.ArrayList;
import java.util.HashMap;
import java.util.List;
import java.util.Map;
import java.util.concurrent.ConcurrentSkipListMap;
import java.util.concurrent.ExecutorService;
import java.util.concurrent.Executors;
import java.util.concurrent.TimeUnit;
import java.util.regex.Matcher;
import java.util.regex.Pattern;
import javax.tools.FileObject;
import javax.tools.ForwardingJavaFileManager;
import javax.tools.JavaCompiler;
import javax.tools.JavaFileManager;
import javax.tools.JavaFileObject;
import javax.tools.SimpleJavaFileObject;
import javax.tools.ToolProvider;

/**
 * By hand, not by .ci/run: changes the class in one place at a time and tells which changes none of the tests by
 * sentence notices (with the argument all: neither EveryTest nor RandomRunsTest either). What is left is to be looked
 * through: most of it changes no answer (a guard, a looser bound).
 */
public final class Mutants {
    private static final Path SOURCE = Path.of("src/main/java/SleptFor.java");
    private static final String[] PARTS = {"ValleySentences", "TextSentences", "QuestionSentences", "CallSentences", "AskSentences"};
    private static final String[][] SIGNS = {{"<=", "<"}, {">=", ">"}, {" < ", " <= "}, {" > ", " >= "}, {"==", "!="}, {"!=", "=="}, {"&&", "||"},
        {"||", "&&"}, {" + ", " - "}, {" - ", " + "}, {"true", "false"}, {"false", "true"}, {"Math.max", "Math.min"}, {"Math.min", "Math.max"},
        {" & ", " | "}, {" | ", " & "}, {"~", ""}, {"++", "--"}, {"--", "++"}, {" += ", " -= "}, {" -= ", " += "}, {" |= ", " &= "}, {" * ", " + "},
        {" / ", " * "}, {" % ", " / "}, {" >> ", " << "}, {"!", ""}, {"continue", "break"}};
    private static final Pattern NUMBER = Pattern.compile("(?<![\\w.])\\d+(?![\\w.])");
    private static final Pattern DECLARED = Pattern.compile("(return|case|default|break|(private|static|final|public|int|long|boolean|String|Night|Folk|Text) ).*");
    private static final JavaCompiler COMPILER = ToolProvider.getSystemJavaCompiler();
    private static Path tests;
    private static boolean byAll;

    private record Mutant(int line, String was, String is, String source) {
    }

    private static final class Source extends SimpleJavaFileObject {
        private final String code;

        Source(String code) {
            super(URI.create("string:///SleptFor.java"), Kind.SOURCE);
            this.code = code;
        }

        @Override
        public CharSequence getCharContent(boolean ignored) {
            return code;
        }
    }

    private static final class Compiled extends SimpleJavaFileObject {
        private final ByteArrayOutputStream bytes = new ByteArrayOutputStream();

        Compiled(String name) {
            super(URI.create("mem:///" + name + ".class"), Kind.CLASS);
        }

        @Override
        public OutputStream openOutputStream() {
            return bytes;
        }
    }

    /** The changed class, and the tests as they were compiled once. */
    private static final class Loader extends ClassLoader {
        private final Map<String, Compiled> changed;

        Loader(Map<String, Compiled> changed) {
            super(ClassLoader.getPlatformClassLoader());
            this.changed = changed;
        }

        @Override
        protected Class<?> findClass(String name) throws ClassNotFoundException {
            try {
                byte[] b = changed.containsKey(name) ? changed.get(name).bytes.toByteArray() : Files.readAllBytes(tests.resolve(name + ".class"));
                return defineClass(name, b, 0, b.length);
            } catch (IOException e) {
                throw new ClassNotFoundException(name, e);
            }
        }
    }

    /** None, if it can't be compiled. */
    private static Map<String, Compiled> compiled(String code) {
        Map<String, Compiled> classes = new HashMap<>();
        JavaFileManager files = new ForwardingJavaFileManager<JavaFileManager>(COMPILER.getStandardFileManager(d -> { }, null, null)) {
            @Override
            public JavaFileObject getJavaFileForOutput(Location location, String name, JavaFileObject.Kind kind, FileObject sibling) {
                classes.put(name, new Compiled(name));
                return classes.get(name);
            }
        };
        return COMPILER.getTask(null, files, d -> { }, List.of("-proc:none"), null, List.of(new Source(code))).call() ? classes : null;
    }

    private static int failed(Map<String, Compiled> classes) throws ReflectiveOperationException {
        Loader loader = new Loader(classes);
        for (String part : PARTS) {
            Method all = loader.loadClass(part).getDeclaredMethod("all");
            all.setAccessible(true);
            all.invoke(null);
        }
        Field failed = loader.loadClass("Sentences").getDeclaredField("failed");
        failed.setAccessible(true);
        int wrong = failed.getInt(null);
        if (wrong == 0 && byAll) wrong += answer(loader, "EveryTest", "wrongAnswers");
        if (wrong == 0 && byAll) wrong += answer(loader, "RandomRunsTest", "wrongRuns", 0, 1500);
        return wrong;
    }

    private static int answer(Loader loader, String test, String method, Object... arguments) throws ReflectiveOperationException {
        for (Method m : loader.loadClass(test).getDeclaredMethods()) {
            if (!m.getName().equals(method)) continue;
            m.setAccessible(true);
            return (Integer) m.invoke(null, arguments);
        }
        throw new NoSuchMethodException(test + "." + method);
    }

    /** One that doesn't end, or that breaks the tests themselves, is noticed as well. */
    @SuppressWarnings("removal")
    private static boolean isNoticed(Map<String, Compiled> classes) throws InterruptedException {
        boolean[] held = {false};
        Thread run = new Thread(() -> {
            try {
                held[0] = failed(classes) == 0;
            } catch (ReflectiveOperationException | LinkageError e) {
                held[0] = false;
            }
        });
        run.setDaemon(true);
        run.start();
        run.join(byAll ? 120_000 : 20_000);
        // the JDK 17 that this project keeps to can stop a loop without an end no other way
        if (run.isAlive()) run.stop();
        return !held[0];
    }

    private static List<Mutant> mutants(String source) {
        List<Mutant> all = new ArrayList<>();
        String[] lines = source.split("\n", -1);
        boolean comment = false;
        for (int i = 0; i < lines.length; i++) {
            String s = lines[i];
            String t = s.trim();
            comment |= t.startsWith("/*");
            boolean skipped = comment || t.startsWith("//");
            comment &= !t.endsWith("*/");
            if (skipped) continue;
            for (String[] sign : SIGNS) {
                for (int at = s.indexOf(sign[0]); at >= 0; at = s.indexOf(sign[0], at + 1)) add(all, lines, i, at, sign[0].length(), sign[1]);
            }
            Matcher m = NUMBER.matcher(s);
            while (m.find()) {
                long n = Long.parseLong(m.group());
                add(all, lines, i, m.start(), m.group().length(), Long.toString(n + 1));
                if (n > 0) add(all, lines, i, m.start(), m.group().length(), Long.toString(n - 1));
            }
            if (t.endsWith(";") && !DECLARED.matcher(t).matches()) add(all, lines, i, s.indexOf(t), t.length(), ";");
        }
        return all;
    }

    private static void add(List<Mutant> all, String[] lines, int i, int at, int length, String to) {
        String was = lines[i];
        lines[i] = was.substring(0, at) + to + was.substring(at + length);
        all.add(new Mutant(i + 1, was.trim(), lines[i].trim(), String.join("\n", lines)));
        lines[i] = was;
    }

    private static Path compiledTests() throws IOException {
        Path out = Files.createTempDirectory("mutants");
        if (COMPILER.run(null, null, null, "-sourcepath", "src/test/java", "-d", out.toString(), SOURCE.toString(), "src/test/java/SentencesTest.java",
            "src/test/java/EveryTest.java", "src/test/java/RandomRunsTest.java") != 0) System.exit(1);
        return out;
    }

    public static void main(String[] args) throws IOException, InterruptedException {
        byAll = args.length > 0 && args[0].equals("all");
        tests = compiledTests();
        String source = Files.readString(SOURCE);
        PrintStream told = System.out;
        System.setOut(new PrintStream(OutputStream.nullOutputStream()));
        if (isNoticed(compiled(source))) {
            told.println("the tests fail as it is");
            System.exit(1);
        }
        List<Mutant> all = mutants(source);
        Map<Integer, String> left = new ConcurrentSkipListMap<>();
        ExecutorService pool = Executors.newFixedThreadPool(Runtime.getRuntime().availableProcessors());
        for (int i = 0; i < all.size(); i++) {
            int number = i;
            pool.submit(() -> {
                Mutant m = all.get(number);
                Map<String, Compiled> classes = compiled(m.source());
                if (classes != null && !isNoticed(classes)) left.put(number, "line " + m.line() + ": " + m.was() + "\n    -> " + m.is());
                return null;
            });
        }
        pool.shutdown();
        pool.awaitTermination(3, TimeUnit.HOURS);
        left.values().forEach(told::println);
        told.println(all.size() + " changes, " + left.size() + " not noticed");
        System.exit(0);
    }
}
