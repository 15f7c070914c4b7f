import java.util.ArrayList;
import java.util.HashMap;
import java.util.List;
import java.util.Map;
import java.util.regex.Matcher;
import java.util.regex.Pattern;

/** The Model's reader: it answers laws while it reads, and a FAULT is thrown. */
final class Script {
    private static final Pattern TOKEN = Pattern.compile("[a-zA-Z]+|[0-9]+|<=|>=|[<>=#+*/();-]|[^ \\n]", Pattern.DOTALL);
    private static final Map<String, String> NAMES = Map.of(
            "worth", " who now on depth dream whom ", "burn", " who now on task noise ",
            "sound", " who now on depth ", "price", " who now depth owed ");
    private static final String ALL_NAMES = " who now on depth dream whom task noise owed ";

    private static final class Fault extends RuntimeException {
        private static final long serialVersionUID = 1;
        final int what;

        Fault(int what) {
            this.what = what;
        }
    }

    final String text;
    final Map<String, Integer> names = new HashMap<>();
    final Map<String, Long> laws = new HashMap<>();
    final List<List<Object>> clauses = new ArrayList<>();
    int fault;
    int place = -1;
    private final List<String> tokens = new ArrayList<>();
    private final List<Integer> places = new ArrayList<>();
    private int at;
    private String law;

    Script(String text) {
        this.text = text;
        Matcher m = TOKEN.matcher(text);
        while (m.find()) {
            tokens.add(m.group());
            places.add(m.start());
        }
        tokens.add("");
        places.add(text.length());
        for (String name : ALL_NAMES.trim().split(" ")) names.put(name, 0);
    }

    void read() {
        try {
            while (!now().isEmpty()) clause();
        } catch (Fault f) {
            fault = f.what;
            place = places.get(at);
        }
    }

    private String now() {
        return tokens.get(at);
    }

    private boolean took(String token) {
        if (!now().equals(token)) return false;
        at++;
        return true;
    }

    private void need(String token) {
        if (!took(token)) throw new Fault(1);
    }

    private int number(int least, int most) {
        if (!now().matches("[0-9]+")) throw new Fault(1);
        java.math.BigInteger n = new java.math.BigInteger(now());
        if (n.compareTo(java.math.BigInteger.valueOf(least)) < 0 || n.compareTo(java.math.BigInteger.valueOf(most)) > 0) throw new Fault(2);
        at++;
        return n.intValue();
    }

    private void clause() {
        String what = now();
        if (!what.matches("worth|burn|sound|price|wake|sleep|idle|call|repay|hour")) throw new Fault(1);
        if (laws.containsKey(what)) throw new Fault(4);
        if (clauses.size() == 24) throw new Fault(6);
        at++;
        List<Object> c = new ArrayList<>(List.of(what));
        clauses.add(c);
        switch (what) {
            case "wake": c.add(number(0, 7)); need("at"); c.add(number(0, 5)); break;
            case "sleep": c.add(number(0, 7)); need("for"); c.add(number(0, 7)); break;
            case "idle": case "call": c.add(number(0, 7)); break;
            case "repay": c.add(number(0, 7)); need("to"); c.add(number(0, 7)); need("by"); c.add(number(1, 99)); break;
            case "hour": c.add(number(1, 60)); break;
            default:
                law = what;
                laws.put(what, 0L);
                laws.put(what, sum(0));
        }
        need(";");
    }

    private static long cut(long value) {
        return Math.max(-1000000, Math.min(1000000, value));
    }

    private long sum(int open) {
        long value = product(open);
        while (true) {
            if (took("+")) value = cut(value + product(open));
            else if (took("-")) value = cut(value - product(open));
            else return value;
        }
    }

    private long product(int open) {
        long value = one(open);
        while (true) {
            if (took("*")) {
                value = cut(value * one(open));
            } else if (took("/")) {
                long by = one(open);
                value = by == 0 ? 0 : value / by;
            } else {
                return value;
            }
        }
    }

    private void open(int open) {
        if (open == 8) throw new Fault(3);
        at++;
    }

    private long one(int open) {
        String token = now();
        if (token.matches("[0-9]+")) return number(0, 9999);
        if (!token.isEmpty() && ALL_NAMES.contains(" " + token + " ")) {
            if (!NAMES.get(law).contains(" " + token + " ")) throw new Fault(5);
            at++;
            return names.get(token);
        }
        long value;
        switch (token) {
            case "(":
                open(open);
                value = sum(open + 1);
                need(")");
                return value;
            case "-":
                open(open);
                return -one(open + 1);
            case "if":
                open(open);
                boolean asked = either(open + 1);
                need("then");
                long yes = sum(open + 1);
                need("else");
                long no = sum(open + 1);
                need("end");
                return asked ? yes : no;
            default:
                throw new Fault(1);
        }
    }

    private boolean either(int open) {
        boolean value = both(open);
        while (took("or")) value |= both(open);
        return value;
    }

    private boolean both(int open) {
        boolean value = ask(open);
        while (took("and")) value &= ask(open);
        return value;
    }

    private boolean ask(int open) {
        if (now().equals("not")) {
            open(open);
            return !ask(open + 1);
        }
        long left = sum(open);
        String sign = now();
        if (!sign.matches("<|<=|>|>=|=|#")) throw new Fault(1);
        at++;
        long right = sum(open);
        switch (sign) {
            case "<": return left < right;
            case "<=": return left <= right;
            case ">": return left > right;
            case ">=": return left >= right;
            case "=": return left == right;
            default: return left != right;
        }
    }
}
