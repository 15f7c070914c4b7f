import java.util.function.BooleanSupplier;
import java.util.function.IntPredicate;
import java.util.function.IntToLongFunction;
import java.util.function.LongSupplier;

/** What the tests by sentence share: a test names the part of the document and the words there that it tests. */
abstract class Sentences {
    static final Document DOCUMENT = new Document();
    static final int LOW = Integer.MIN_VALUE;
    static final int HIGH = Integer.MAX_VALUE;
    static final int[] NO_PERSON = {LOW, -9, -2, -1, 8, 9, 31, 32, 33, 256, HIGH};
    static int tests;
    static int failed;
    private static String label;
    private static boolean good;

    static void test(String part, String words, Runnable answers) {
        tests++;
        good = true;
        label = (part.matches("\\d+") ? "promise " : "part ") + part + ", \"" + words + "\"";
        if (!DOCUMENT.says(part, words)) wrong("the document doesn't say that there");
        try {
            answers.run();
        } catch (RuntimeException | StackOverflowError e) {
            wrong("it threw " + e);
        }
        if (!good) failed++;
    }

    static void test(int promise, String words, Runnable answers) {
        test(Integer.toString(promise), words, answers);
    }

    private static void wrong(String what) {
        good = false;
        System.out.println(label + ": " + what);
    }

    private static String line() {
        for (StackTraceElement at : new Throwable().getStackTrace()) {
            if (!at.getClassName().equals("Sentences")) return at.getFileName() + " line " + at.getLineNumber();
        }
        return "";
    }

    static void due(long got, long want) {
        if (got != want) wrong(line() + ": answered " + got + ", due is " + want);
    }

    static void due(boolean got, boolean want) {
        if (got != want) wrong(line() + ": answered " + got + ", due is " + want);
    }

    static void due(String got, String want) {
        if (!got.equals(want)) wrong(line() + ": it is " + got + ", due is " + want);
    }

    /** Calls that all answer this, and change nothing. */
    static void refused(SleptFor x, long answer, LongSupplier... calls) {
        String ahead = state(x);
        for (LongSupplier call : calls) due(call.getAsLong(), answer);
        due(state(x), ahead);
    }

    static void refused(SleptFor x, BooleanSupplier... calls) {
        String ahead = state(x);
        for (BooleanSupplier call : calls) due(call.getAsBoolean(), false);
        due(state(x), ahead);
    }

    /** The same by each of these arguments. */
    static void refused(SleptFor x, long answer, int[] arguments, IntToLongFunction... calls) {
        String ahead = state(x);
        for (int argument : arguments) for (IntToLongFunction call : calls) due(call.applyAsLong(argument), answer);
        due(state(x), ahead);
    }

    static void refused(SleptFor x, int[] arguments, IntPredicate... calls) {
        String ahead = state(x);
        for (int argument : arguments) for (IntPredicate call : calls) due(call.test(argument), false);
        due(state(x), ahead);
    }

    /** All that can be asked for in few calls. */
    static String state(SleptFor x) {
        StringBuilder s = new StringBuilder();
        for (int i = 0; i < 10; i++) s.append(x.about(i)).append(' ');
        s.append("FAULT ").append(x.fault(0)).append(' ').append(x.fault(1));
        return s.append(doings(x)).toString();
    }

    /** What a STEP that is taken back brings back. */
    static String doings(SleptFor x) {
        StringBuilder s = new StringBuilder(" HOUR ").append(x.about(2)).append(" X ").append(x.about(3));
        int people = x.about(0);
        for (int p = 0; p < people; p++) {
            s.append(" P").append(p);
            for (int what = 2; what < 8; what++) s.append(' ').append(x.of(p, what));
            for (int q = 0; q < people; q++) s.append(q == 0 ? " owes " : ",").append(x.owes(p, q));
        }
        for (int w = 0; w < x.about(1); w++) s.append(" DONE ").append(x.ofWork(w, 2));
        for (int what = 0; what < 3; what++) s.append(" kept ").append(x.kept(x.about(2) - 1, what));
        return s.append(' ').append(x.kept(x.about(2) - 60, 0)).toString();
    }

    /** PEOPLE by DEPTH and VOICE: 38 is DEPTH 3, VOICE 8. */
    static SleptFor folk(int... people) {
        SleptFor x = new SleptFor();
        for (int p : people) x.person(p / 10, p % 10);
        return x;
    }

    /** PEOPLE of DEPTH 3 and VOICE 5, WORKS of NEEDS 9 and NOISE 0; no one may, no one hears. */
    static SleptFor plain(int people, int works) {
        SleptFor x = new SleptFor();
        for (int i = 0; i < people; i++) x.person(3, 5);
        for (int i = 0; i < works; i++) x.work(9, 0);
        return x;
    }

    /** PEOPLE as in plain; each MAY sleep for each. */
    static SleptFor free(int people, int works) {
        SleptFor x = plain(people, works);
        allMay(x);
        return x;
    }

    static void allMay(SleptFor x) {
        int people = x.about(0);
        for (int i = 0; i < people; i++) for (int j = 0; j < people; j++) x.may(i, j);
    }

    static void allHear(SleptFor x) {
        int people = x.about(0);
        for (int i = 0; i < people; i++) for (int j = 0; j < i; j++) x.hears(i, j);
    }

    /** All from this one on fall ASLEEP for one. */
    static void allSleep(SleptFor x, int from, int whom) {
        int people = x.about(0);
        for (int p = from; p < people; p++) x.sleep(p, whom);
    }

    static int word(String s, int at) {
        int word = 0;
        for (int i = at; i < at + 4; i++) word = word << 8 | (i < s.length() ? s.charAt(i) : ' ');
        return word;
    }

    static int feed(SleptFor x, String twenty) {
        return x.feed(word(twenty, 0), word(twenty, 4), word(twenty, 8), word(twenty, 12), word(twenty, 16));
    }

    static void tape(SleptFor x, String s) {
        x.end(0);
        for (int i = 0; i < s.length(); i += 20) feed(x, s.substring(i));
        x.end(s.length());
    }

    static int text(SleptFor x, String s) {
        tape(x, s);
        return x.text();
    }

    /** This rules from now on. */
    static SleptFor rule(SleptFor x, String s) {
        int text = text(x, s);
        due(text >= 0, true);
        due(x.by(text), true);
        return x;
    }

    static void faulty(String s, int fault, int place) {
        SleptFor x = new SleptFor();
        due(text(x, s), fault == 0 ? 0 : -1);
        due(x.fault(0), fault);
        due(x.fault(1), place);
    }

    static void good(String s) {
        faulty(s, 0, -1);
    }

    /** What a SUM is (0 .. 99), as the sound of PERSON 2 of DEPTH 3. */
    static void value(String sum, int want) {
        due(rule(plain(3, 0), "sound " + sum + ";").of(2, 8), want);
    }

    /** Whether an EITHER is so. */
    static void so(String either, boolean want) {
        value("if " + either + " then 1 else 0 end", want ? 1 : 0);
    }

    static int nextX(int x) {
        return (x * 241 + 139) % 30211;
    }

    /** X when so many draws have been done. */
    static int xAfter(int x, int draws) {
        for (int i = 0; i < draws; i++) x = nextX(x);
        return x;
    }

    /** The lowest SEED whose draws begin so: by what is drawn, and what comes; and so on. */
    static int seed(int... draws) {
        for (int seed = 0; seed < 10000; seed++) {
            int x = seed * 2 + 43;
            boolean good = true;
            for (int i = 0; i < draws.length && good; i += 2) {
                good = x % draws[i] == draws[i + 1];
                x = nextX(x);
            }
            if (good) return seed;
        }
        throw new IllegalStateException("no SEED draws so");
    }
}
