import java.util.Arrays;
import java.util.Random;

/** Runs of drawn calls, each answered by the class and by the Model. An argument makes it go through so many runs. */
public final class RandomRunsTest {
    private static final int CALLS = 500;
    private final Random random;
    private final SleptFor real = new SleptFor();
    private final Model model = new Model();
    private final StringBuilder told = new StringBuilder();
    private int calls;

    private RandomRunsTest(long seed) {
        random = new Random(seed);
    }

    private int upTo(int n) {
        return random.nextInt(n);
    }

    /** Mostly one of the told ones, now and then one beside. */
    private int near(int n) {
        return upTo(25) == 0 ? upTo(n + 4) - 2 : upTo(Math.max(1, n));
    }

    private int people() {
        return near(model.w.people.size());
    }

    /** Mostly one that does this, if there is one. */
    private int doing(int what) {
        for (int tries = 0; tries < 20 && upTo(20) > 0; tries++) {
            int p = people();
            if (p >= 0 && p < 8 && p < model.w.people.size() && model.w.doing[p] == what) return p;
        }
        return people();
    }

    /** Mostly one that this one has in a row of yes and no. */
    private int having(int p, boolean[][] rows) {
        for (int tries = 0; tries < 20 && p >= 0 && p < 8; tries++) {
            int q = upTo(8);
            if (rows[p][q]) return q;
        }
        return people();
    }

    private boolean repayCall() {
        int p = people();
        int q = people();
        for (int tries = 0; tries < 30 && p >= 0 && p < 8 && q >= 0 && q < 8 && model.w.owes[p][q] == 0; tries++) {
            p = upTo(8);
            q = upTo(8);
        }
        return same("repay", p, q, near(4));
    }

    private boolean sleepCall() {
        int p = doing(0);
        return same("sleep", p, having(p, model.w.may));
    }

    private boolean guardCall() {
        int p = doing(2);
        int set = p >= 0 && p < 8 && upTo(20) > 0 ? set(8) & ~(1 << p) : set(8);
        return same("guard", p, set);
    }

    private int works() {
        return near(model.w.works.size());
    }

    private int set(int most) {
        int bits = upTo(1 << model.w.people.size());
        while (Integer.bitCount(bits) > most) bits &= upTo(256);
        return upTo(30) == 0 ? upTo(600) - 100 : bits;
    }

    private boolean same(String name, int... a) {
        calls++;
        told.append(name).append(Arrays.toString(a));
        long want = Calls.model(model, name, a);
        long got = Calls.real(real, name, a);
        told.append(" = ").append(got).append('\n');
        if (got == want) return true;
        System.out.println(told + "due is " + want);
        return false;
    }

    private String oneOf(String... all) {
        return all[upTo(all.length)];
    }

    private String sum(int deep, String names) {
        String s = product(deep, names);
        while (upTo(3) == 0) s += oneOf("+", "-", " + ", " -\n") + product(deep, names);
        return s;
    }

    private String product(int deep, String names) {
        String s = one(deep, names);
        while (upTo(4) == 0) s += oneOf("*", "/", " * ", " / ") + one(deep, names);
        return s;
    }

    private String one(int deep, String names) {
        switch (deep <= 0 ? upTo(4) : upTo(9)) {
            case 0: case 1: return oneOf("0", "1", "2", "5", "10", "99", "1000", "9999", "" + upTo(30));
            case 2: case 3: case 4: return oneOf(names.split(" "));
            case 5: return "(" + sum(deep - 1, names) + ")";
            case 6: return "-" + one(deep - 1, names);
            default:
                return "if " + either(deep - 1, names) + " then " + sum(deep - 1, names) + " else " + sum(deep - 1, names) + " end";
        }
    }

    private String either(int deep, String names) {
        String s = ask(deep, names);
        while (upTo(4) == 0) s += oneOf(" or ", " and ") + ask(deep, names);
        return s;
    }

    private String ask(int deep, String names) {
        if (upTo(6) == 0) return "not " + ask(deep - 1, names);
        return sum(deep - 1, names) + oneOf("<", "<=", ">", ">=", "=", "#", " < ") + sum(deep - 1, names);
    }

    private String script() {
        String s = "";
        int deep = upTo(10) == 0 ? 7 : upTo(3);
        if (upTo(2) == 0) s += "worth " + oneOf("", "", "5 + ", "dream + ") + sum(deep, "who now on depth dream whom dream") + ";";
        if (upTo(2) == 0) s += "burn " + oneOf("1;", "noise;", "4 + on / 3;", "task * 3;", sum(deep, "who now on task noise noise") + ";");
        if (upTo(2) == 0) s += "sound " + oneOf("0;", "5;", "depth - on;", sum(deep, "who now on depth depth") + ";");
        if (upTo(2) == 0) s += "price " + sum(deep, "who now depth owed owed") + ";";
        for (int n = upTo(4) == 0 ? upTo(27) : upTo(5); n > 0; n--) s += deed();
        if (upTo(4) == 0 && !s.isEmpty()) s = spoilt(s);
        return s.length() > 300 ? s.substring(0, upTo(300)) : s;
    }

    private String deed() {
        int n = Math.max(1, model.w.people.size());
        int m = Math.max(1, model.w.works.size());
        switch (upTo(6)) {
            case 0: return "wake " + Math.max(0, doing(0)) % 10 + " at " + upTo(m) + ";";
            case 1: int p = Math.max(0, doing(0)) % 10;
                return "sleep " + p + " for " + Math.max(0, having(p, model.w.may)) + " ;";
            case 2: return "idle " + upTo(n) + ";";
            case 3: return "call" + upTo(n) + ";";
            case 4: return "repay " + upTo(n) + " to " + upTo(n) + " by " + (1 + upTo(3)) + ";";
            default: return "hour " + (upTo(5) == 0 ? upTo(62) : 1 + upTo(4)) + ";";
        }
    }

    private String spoilt(String s) {
        int at = upTo(s.length());
        String put = oneOf("", "", " ", ";", "(", "- - - - - - - -", "not ", "if ", "who", "owed", "worth", "10000", "8", "0", "Who", "\t", "end", "=", "((((((((");
        return s.substring(0, at) + put + s.substring(Math.min(s.length(), at + upTo(3)));
    }

    private boolean feedText() {
        String s = script();
        for (int i = 0; i < s.length(); i += 20) {
            int[] a = new int[5];
            for (int j = 0; j < 20; j++) a[j / 4] = a[j / 4] << 8 | (i + j < s.length() ? s.charAt(i + j) : upTo(256));
            if (!same("feed", a)) return false;
        }
        boolean good = same("end", upTo(30) == 0 ? upTo(320) - 10 : s.length()) && same("text") && same("fault", 0) && same("fault", 1);
        return good && (upTo(2) == 0 || same("by", model.w.texts.size() - 1));
    }

    private boolean build() {
        boolean good = true;
        for (int i = upTo(9); i > 0 && good; i--) good = same("person", upTo(10), upTo(10));
        for (int i = upTo(7); i > 0 && good; i--) good = same("work", 1 + upTo(upTo(2) == 0 ? 4 : 99), upTo(10));
        for (int i = upTo(60); i > 0 && good; i--) good = same("may", people(), people());
        for (int i = upTo(40); i > 0 && good; i--) good = same("hears", people(), people());
        return good && (upTo(4) == 0 || same("image"));
    }

    private boolean deedCall() {
        switch (upTo(16)) {
            case 0: return same("person", near(10), near(10));
            case 1: return same("work", near(100), near(10));
            case 2: return same("may", people(), people());
            case 3: return same("hears", people(), people());
            case 4: return same("wake", doing(0), works());
            case 5: case 6: case 7: return sleepCall();
            case 8: return same("idle", people());
            case 9: return same("call", doing(2));
            case 10: return repayCall();
            case 11: return same("hour", upTo(8) == 0 ? near(61) : near(3));
            case 12: return same("year", near(10000), near(31));
            case 13: return same("played", near(model.w.texts.size()));
            case 14: return upTo(3) > 0 ? same("undo") : upTo(3) > 0 ? same("by", upTo(6) - 1) : same("image");
            default: return upTo(9) == 0 ? same("back") : feedText();
        }
    }

    private boolean question() {
        switch (upTo(22)) {
            case 0: case 1: case 2: return same("of", people(), near(12));
            case 3: return same("ofWork", works(), near(3));
            case 4: return same("owes", people(), people());
            case 5: return same("kept", model.w.hour - upTo(63), near(3));
            case 6: return same("foretoldDone", near(61), works());
            case 7: return same("foretoldStop", near(61), doing(1));
            case 8: case 9: return pairing("match");
            case 10: return pairing("whoCannot");
            case 11: return same("behind", people(), upTo(3) == 0 ? -1 : people());
            case 12: return upTo(2) == 0 ? same("valley", near(24), near(100)) : same("about", near(10));
            case 13: int n = near(9);
                return same("rota", n, set(4), upTo(3) == 0 ? near(9) : near(4), near(9), upTo(3) == 0 ? -1 : near(n));
            case 14: return same("chain", doing(2));
            case 15: return guardCall();
            case 16: return same("enough", near(6), near(11), upTo(2) == 0 ? near(16) : near(4), near(6), upTo(2));
            case 17: return same("ring", upTo(10) - 3);
            case 18: return same("without", upTo(258) - 1);
            case 19: return same("strike", doing(1));
            case 20: return same("fits", people());
            default: return same("forNobody");
        }
    }

    private boolean pairing(String name) {
        int wakers = set(upTo(3) == 0 ? 4 : 2) | upTo(2);
        int sleepers = (set(6) | set(3)) & (upTo(20) == 0 ? -1 : ~wakers);
        if (name.equals("whoCannot")) return same(name, wakers, works(), sleepers);
        int sleeper = people();
        while (upTo(15) > 0 && !Model.in(sleeper, sleepers)) sleeper = people();
        return same(name, wakers, works(), sleepers, upTo(2), upTo(3) == 0 ? -1 : sleeper);
    }

    private boolean wholeState() {
        boolean good = true;
        for (int what = 0; what < 10 && good; what++) good = same("about", what);
        for (int p = 0; p < model.w.people.size() && good; p++) {
            for (int what = 2; what < 12 && good; what++) good = same("of", p, what);
        }
        for (int p = 0; p < model.w.works.size() && good; p++) good = same("ofWork", p, 2);
        return good;
    }

    private boolean isSame() {
        boolean good = upTo(10) == 0 || build();
        for (int i = upTo(3) == 0 ? 12 : 0; i > 0 && good; i--) {
            good = same("year", upTo(10000), 30) && same("ring", -1) && same("ring", -2) && same("ring", upTo(4));
        }
        while (good && calls < CALLS - 120) good = upTo(2) == 0 ? deedCall() : question();
        return good && wholeState();
    }

    /** How many of these runs are not as due, up to the first one. */
    static int wrongRuns(int first, int runs) {
        for (int seed = first; seed < first + runs; seed++) {
            if (!new RandomRunsTest(seed).isSame()) {
                System.out.println("run " + seed + " is not as due");
                return 1;
            }
        }
        return 0;
    }

    public static void main(String[] args) {
        int runs = args.length > 0 ? Integer.parseInt(args[0]) : 1500;
        int first = args.length > 1 ? Integer.parseInt(args[1]) : 0;
        if (wrongRuns(first, runs) != 0) System.exit(1);
        System.out.println(runs + " drawn runs are as due");
    }
}
