import java.util.Arrays;
import java.util.List;

/** What can be gone through from end to end: all numbers of a question, all small valleys, and each TOKEN at each place of a text. */
public final class EveryTest {
    private static final String[] WORDS = ("worth burn sound price wake sleep idle call repay hour at for to by if then else end or and not "
        + "who now on depth dream whom task noise owed 0 1 5 6 7 8 60 61 99 100 9999 10000 <= >= < > = # + - * / ( ) ; @ Who worths 1a \t !=").split(" ");
    /** Each leads to another place of the language. */
    private static final String[] PLACES = {"", "worth 1;", "worth", "worth 1", "worth who", "worth 1+", "worth 1-", "worth 2*", "worth 2/", "worth (",
        "worth (1", "worth (1)", "worth -", "worth -1", "worth if", "worth if 1", "worth if 1<", "worth if 1<2", "worth if not", "worth if not 1#2",
        "worth if 1<2 and", "worth if 1<2 and 2>=1", "worth if 1<2 or", "worth if 1<2 then", "worth if 1<2 then 3", "worth if 1<2 then 3 else",
        "worth if 1<2 then 3 else 4", "worth if 1<2 then 3 else 4 end", "burn", "burn 1*", "sound", "sound if", "price", "price (", "price 1; burn 1;",
        "wake", "wake 1", "wake 1 at", "wake 1 at 2", "sleep", "sleep 1", "sleep 1 for", "sleep 1 for 2", "idle", "idle 1", "call", "call 1",
        "repay", "repay 1", "repay 1 to", "repay 1 to 2", "repay 1 to 2 by", "repay 1 to 2 by 3", "hour", "hour 1",
        "worth ((((((((", "worth - - - - - - - -", "worth if if if if if if if if", "worth if not not not not not not not",
        "worth if not not not not not not (-", "worth ((((((((1))))))))", "worth if 1<2 then ((((((-", "worth if 1<2 then 3 else ((((((-",
        "hour 1;".repeat(23), "hour 1;".repeat(24), "worth 1;" + "idle 1;".repeat(22), "worth 1;" + "idle 1;".repeat(23)};
    private static int wrong;
    private static int asked;
    private static SleptFor object = new SleptFor();
    private static int calls;

    private static void due(long got, long want, String what) {
        asked++;
        if (got != want && ++wrong < 20) System.out.println(what + ": answered " + got + ", due is " + want);
    }

    /** An object for so many calls more; a new one where the old one has been asked too often. */
    private static SleptFor fit(int more) {
        calls += more;
        if (calls > 512) {
            object = new SleptFor();
            for (int i = 0; i < 8; i++) object.person(i, i);
            calls = 8 + more;
        }
        return object;
    }

    private static void valleys() {
        Model model = new Model();
        for (int a = -1; a <= 25; a++) {
            for (int v = -1; v <= 101; v++) due(fit(1).valley(a, v), model.valley(a, v), "valley " + a + " " + v);
        }
    }

    private static void odds() {
        Model model = new Model();
        for (int k = -1; k <= 6; k++) for (int p = -1; p <= 11; p++) for (int n = -1; n <= 16; n++) for (int m = -1; m <= 6; m++) {
            String what = "enough " + k + " " + p + " " + n + " " + m;
            due(fit(1).enough(k, p, n, m, false), model.enough(k, p, n, m, false), what);
            due(fit(1).enough(k, p, n, m, true), model.enough(k, p, n, m, true), what + " lower");
        }
    }

    private static void rotas() {
        fit(513);
        for (int people : new int[] {1, 128, 3, 72, 69, 224, 15, 165}) {
            for (int n = 1; n <= 8; n++) for (int e = 1; e <= 8; e++) for (int r = 0; r <= 8; r++) {
                int[] plan = Model.bestRota(n, people, e, r);
                String what = "rota " + n + " " + people + " " + e + " " + r;
                due(fit(1).rota(n, people, e, r, -1), plan == null ? -1 : Model.changes(plan), what);
                for (int hour = 0; hour <= n; hour++) {
                    due(fit(1).rota(n, people, e, r, hour), plan == null || hour == n ? -1 : plan[hour], what + " in " + hour);
                }
            }
        }
    }

    /** All ways in which four PEOPLE can owe one another. */
    private static void rings() {
        for (int graph = 0; graph < 1 << 12; graph++) {
            SleptFor x = Sentences.free(4, 1);
            Model model = new Model();
            for (int p = 0; p < 4; p++) {
                int whom = graph >> 3 * p & 7;
                for (int q = 0, bit = 0; q < 4; q++) {
                    if (q != p && (whom >> bit++ & 1) == 1) owe(x, model, p, q);
                }
            }
            for (int i = -3; i <= 4; i++) due(x.ring(i), i < -2 ? -1 : model.ring(i), "RING " + i + " of " + Integer.toBinaryString(graph));
        }
    }

    private static void owe(SleptFor x, Model model, int p, int q) {
        int naps = 1 + (p * 5 + q * 3) % 4;
        x.wake(p, 0);
        x.sleep(q, p);
        x.hour(naps);
        x.idle(p);
        x.idle(q);
        model.w.owes[p][q] = naps;
    }

    /** One object and a Model beside it, told the same. */
    private static final class Both {
        final SleptFor real = new SleptFor();
        final Model model = new Model();
        private final StringBuilder told = new StringBuilder();

        void same(String name, int... a) {
            told.append(name).append(Arrays.toString(a)).append(' ');
            due(Calls.real(real, name, a), Calls.model(model, name, a), told.toString());
        }

        /** What only asks is not told on. */
        void asks(String name, int... a) {
            due(Calls.real(real, name, a), Calls.model(model, name, a), told + name + Arrays.toString(a));
        }

        void rule(String s) {
            for (int i = 0; i < s.length(); i += 20) {
                same("feed", Sentences.word(s, i), Sentences.word(s, i + 4), Sentences.word(s, i + 8), Sentences.word(s, i + 12), Sentences.word(s, i + 16));
            }
            same("text");
            same("by", 0);
        }
    }

    /** All ways in which four that are ASLEEP can hear one another. */
    private static void wakings() {
        for (int hears = 0; hears < 64; hears++) for (int kind = 0; kind < 6; kind++) {
            Both b = new Both();
            for (int p = 0; p < 5; p++) b.same("person", (kind + p * 2) % 5, (kind * 3 + p * 5) % 10);
            for (int p = 0; p < 5; p++) b.same("may", p, (p + 1) % 5);
            for (int p = 1, bit = 0; p < 4; p++) for (int q = 0; q < p; q++) if ((hears >> bit++ & 1) == 1) b.same("hears", p, q);
            if (kind > 2) b.same("hears", 4, kind - 3);
            for (int p = 0; p < (kind == 5 ? 3 : 4); p++) b.same("sleep", p, p + 1);
            for (int p = 0; p < 5; p++) {
                b.asks("chain", p);
                for (int people = 0; people < 32; people++) b.asks("guard", p, people);
            }
        }
    }

    /** All ways in which three MAY sleep for two, by some laws. */
    private static void matches() {
        String[] laws = {"", "worth who*4;burn 8+task;", "worth 6+whom*3;burn 9;price owed+who;", "worth 5+depth;burn noise;price 3-who/2;",
            "burn who*10;price whom;", "worth 10-depth*2;burn 10-who*5;price if who=3 then 0 else 7 end;", "burn 0;price 0;", "worth depth*3-whom;burn 7;price depth;"};
        for (String law : laws) for (int may = 0; may < 64; may++) {
            Both b = new Both();
            for (int p = 0; p < 5; p++) b.same("person", (p * 3 + may) % 7, 0);
            b.same("work", 9, 6);
            for (int bit = 0; bit < 6; bit++) if ((may >> bit & 1) == 1) b.same("may", 2 + bit / 2, bit % 2);
            if (!law.isEmpty()) b.rule(law);
            for (int wakers = 1; wakers < 4; wakers++) for (int sleepers = 4; sleepers < 32; sleepers += 4) {
                b.asks("whoCannot", wakers, 0, sleepers);
                for (int dear = 0; dear < 2; dear++) for (int s = -1; s < 5; s++) b.asks("match", wakers, 0, sleepers, dear, s);
            }
        }
    }

    /** All ways in which four sleep for one of two that are AWAKE, or don't. */
    private static void strikes() {
        for (String law : new String[] {"", "worth 2+depth;burn 5;", "worth depth*whom+3;burn on*4;", "worth 9-who;burn who*9;"}) for (int way = 0; way < 81; way++) {
            Both b = new Both();
            for (int p = 0; p < 6; p++) b.same("person", (p * 5 + way) % 8, 0);
            b.same("work", 9, 0);
            for (int p = 2; p < 6; p++) for (int q = 0; q < 2; q++) b.same("may", p, q);
            if (!law.isEmpty()) b.rule(law);
            b.same("wake", 0, 0);
            b.same("wake", 1, 0);
            for (int p = 2, left = way; p < 6; p++, left /= 3) if (left % 3 > 0) b.same("sleep", p, left % 3 - 1);
            for (int hour = 0; hour < 2; hour++) {
                for (int p = 0; p < 6; p++) b.asks("strike", p);
                for (int people = 0; people < 64; people++) b.asks("without", people);
                b.same("hour", 1);
                for (int p = 0; p < 6; p++) b.asks("fits", p);
                b.asks("forNobody");
            }
        }
    }

    /** Each TOKEN, and any other one behind it, at each place of the language. */
    private static void tokens() {
        for (String place : PLACES) {
            for (String first : WORDS) {
                read(place + first);
                read(place + " " + first);
                for (String second : WORDS) read(place + " " + first + " " + second);
                for (String second : List.of(";", "1", "=", "-", ")", "who", "\n", " ")) read(place + " " + first + second);
            }
        }
    }

    private static void read(String s) {
        SleptFor x = fit(s.length() / 20 + 5);
        int texts = x.about(4);
        Script script = new Script(s);
        script.read();
        due(Sentences.text(x, s), script.fault == 0 ? texts : -1, "text " + s);
        due(x.fault(0), script.fault, "FAULT of " + s);
        due(x.fault(1), script.place, "place in " + s);
        if (texts == 3) calls = 512;
    }

    /** How many answers are not as due. */
    static int wrongAnswers() {
        valleys();
        odds();
        rotas();
        rings();
        wakings();
        matches();
        strikes();
        tokens();
        return wrong;
    }

    public static void main(String[] args) {
        wrongAnswers();
        System.out.println(asked + " answers, " + wrong + " not as due");
        if (wrong != 0) System.exit(1);
    }
}
