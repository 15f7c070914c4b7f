import java.io.IOException;
import java.lang.reflect.Constructor;
import java.lang.reflect.Field;
import java.lang.reflect.Method;
import java.lang.reflect.Modifier;
import java.nio.file.Files;
import java.nio.file.Path;
import java.util.ArrayList;
import java.util.Arrays;
import java.util.List;
import java.util.Set;
import java.util.TreeSet;
import java.util.regex.Matcher;
import java.util.regex.Pattern;

/** What of LANGUAGE.md can be seen from the source and from the compiled classes. */
public final class RulesTest {
    private static final String FACE = "int person(int,int);int work(int,int);boolean may(int,int);boolean hears(int,int);boolean wake(int,int);"
        + "boolean sleep(int,int);boolean idle(int);int call(int);int repay(int,int,int);int hour(int);int year(int,int);"
        + "int feed(int,int,int,int,int);int end(int);int text();int fault(int);boolean by(int);int played(int);int undo();int of(int,int);"
        + "int ofWork(int,int);int owes(int,int);int kept(int,int);int foretoldDone(int,int);int foretoldStop(int,int);"
        + "int match(int,int,int,boolean,int);int whoCannot(int,int,int);int behind(int,int);int valley(int,int);int rota(int,int,int,int,int);"
        + "int chain(int);int guard(int,int);long enough(int,int,int,int,boolean);int ring(int);int without(int);int strike(int);int fits(int);"
        + "int forNobody();int image();int back();int about(int)";
    private static int wrong;

    private static void must(boolean good, String what) {
        if (!good) {
            wrong++;
            System.out.println(what);
        }
    }

    private static String shape(Method m) {
        StringBuilder s = new StringBuilder(m.getReturnType().getName()).append(' ').append(m.getName()).append('(');
        for (int i = 0; i < m.getParameterCount(); i++) s.append(i > 0 ? "," : "").append(m.getParameterTypes()[i].getName());
        return s.append(')').toString();
    }

    private static void face() {
        Set<String> seen = new TreeSet<>();
        for (Method m : SleptFor.class.getDeclaredMethods()) {
            if (Modifier.isPrivate(m.getModifiers())) continue;
            must(m.getModifiers() == Modifier.PUBLIC, shape(m) + " is not plainly public");
            seen.add(shape(m));
        }
        must(seen.equals(new TreeSet<>(Arrays.asList(FACE.split(";")))), "the face is " + seen);
        must(SleptFor.class.getModifiers() == (Modifier.PUBLIC | Modifier.FINAL), "the class is public and final");
        for (Field f : SleptFor.class.getDeclaredFields()) {
            must(Modifier.isPrivate(f.getModifiers()) || f.getName().equals("NONE"), "field " + f.getName() + " can be seen");
        }
        Constructor<?>[] made = SleptFor.class.getDeclaredConstructors();
        must(made.length == 1 && made[0].getModifiers() == Modifier.PUBLIC && made[0].getParameterCount() == 0, "one public constructor");
    }

    private static void classes() {
        Set<String> names = new TreeSet<>();
        for (Method m : SleptFor.class.getMethods()) names.add(m.getName());
        List<Class<?>> all = new ArrayList<>(List.of(SleptFor.class));
        all.addAll(Arrays.asList(SleptFor.class.getDeclaredClasses()));
        must(all.size() <= 12, all.size() + " classes");
        for (Class<?> c : all) {
            int mod = c.getModifiers();
            must(c == SleptFor.class || Modifier.isStatic(mod) && !Modifier.isPublic(mod) && !Modifier.isProtected(mod), c + " is seen or isn't static");
            int fields = 0;
            for (Field f : c.getDeclaredFields()) {
                if (Modifier.isStatic(f.getModifiers())) {
                    must(Modifier.isFinal(f.getModifiers()), c + "." + f.getName() + " is static and not final");
                    String type = f.getType().getSimpleName();
                    must("int long boolean char String int[] long[] char[] byte[]".contains(type), "static " + type);
                } else {
                    fields++;
                }
            }
            must(fields <= 20, c + " has " + fields + " fields");
            for (Method m : c.getDeclaredMethods()) {
                must(m.getParameterCount() <= 7, shape(m));
                boolean onFace = c == SleptFor.class && Modifier.isPublic(m.getModifiers());
                must(onFace || !names.contains(m.getName()), c + "." + m.getName() + " bears the name of a public one");
            }
        }
    }

    private static void source(String text) {
        String code = text.replaceAll("(?s)/\\*.*?\\*/", "").replaceAll("//[^\n]*", "").replaceAll("\"[^\"\n]*\"", "\"\"").replaceAll("'[^'\n]+'", "' '");
        for (String word : new String[] {"throw", "throws", "try", "catch", "finally", "synchronized", "assert", "import", "package", "protected",
            "volatile", "transient", "native", "var", "yield", "double", "float", "Object", "Exception"}) {
            must(!Pattern.compile("\\b" + word + "\\b").matcher(code).find(), "the word " + word);
        }
        must(!code.contains("->") && !code.contains("::") && !code.contains("@"), "a lambda, a method reference or an annotation");
        must(!Pattern.compile("\"\\s*\\+|\\+\\s*\"").matcher(code).find(), "texts joined by +");
        must(!Pattern.compile("while\\s*\\(\\s*true|for\\s*\\(\\s*;").matcher(code).find(), "a loop without a bound");
        Matcher library = Pattern.compile("\\b(Integer|Long|Math|System|Arrays|String|StringBuilder)\\.(\\w+)").matcher(code);
        while (library.find()) must("bitCount max min arraycopy".contains(library.group(2)), "the library's " + library.group());
        for (int i = 0; i < text.length(); i++) must(text.charAt(i) < 128, "a sign beyond 127 at " + i);
        lengths(code.split("\n"));
    }

    private static void lengths(String[] lines) {
        int begun = -1;
        for (int i = 0; i < lines.length; i++) {
            if (begun < 0 && lines[i].matches("^ {4}( {4})?[a-z][\\w\\[\\] ]*\\(.*\\{$")) begun = i;
            if (begun >= 0 && lines[i].matches("^ {4}( {4})?\\}$") && lines[i].indexOf('}') == lines[begun].length() - lines[begun].stripLeading().length()) {
                must(i - begun < 60, "a method of " + (i - begun + 1) + " lines at line " + (begun + 1));
                begun = -1;
            }
        }
    }

    public static void main(String[] args) throws IOException {
        face();
        classes();
        source(Files.readString(Path.of("src/main/java/SleptFor.java")));
        System.out.println(wrong == 0 ? "the rules that can be seen hold" : wrong + " rules are broken");
        if (wrong != 0) System.exit(1);
    }
}
