import java.io.ByteArrayInputStream;
import java.io.DataInputStream;
import java.io.IOException;
import java.io.InputStream;
import java.util.ArrayList;
import java.util.List;
import java.util.Map;
import java.util.Set;
import java.util.TreeMap;
import java.util.TreeSet;

/** What of LANGUAGE.md shows in the bytecode of the class: which methods call which, what of the library, what is thrown or made, and where. */
public final class CompiledTest {
    private static final Set<String> LIBRARY = Set.of("java/lang/Object.<init>", "java/lang/Math.max", "java/lang/Math.min",
        "java/lang/Integer.bitCount", "java/lang/System.arraycopy", "java/lang/String.charAt");
    private static final Set<String> RECURSIONS = Set.of("[Pairing.search]", "[Rota.place]",
        "[Reader.ask, Reader.both, Reader.choice, Reader.either, Reader.one, Reader.product, Reader.sum]");
    private static final int MOST_DEEP = 8;
    /** Bytes that an instruction takes, by opcode; 0: it tells its own length. */
    private static final String LENGTHS = "1".repeat(16) + "2323322222" + "1".repeat(28) + "22222" + "1".repeat(73) + "3" + "1".repeat(20)
        + "3".repeat(16) + "200" + "1".repeat(6) + "3333333" + "553231133110433" + "55";
    private static int wrong;
    private static final Map<String, Set<String>> called = new TreeMap<>();

    private static void must(boolean good, String what) {
        if (!good) {
            wrong++;
            System.out.println(what);
        }
    }

    /** A class file, read far enough to see the instructions of its methods. */
    private static final class Compiled {
        private final String[] texts;
        private final int[] first;
        private final int[] second;
        private String method;

        Compiled(DataInputStream in) throws IOException {
            in.skipBytes(8);
            int size = in.readUnsignedShort();
            texts = new String[size];
            first = new int[size];
            second = new int[size];
            for (int i = 1; i < size; i++) i += constant(in, i);
            in.skipBytes(6);
            for (int n = in.readUnsignedShort(); n > 0; n--) in.skipBytes(2);
            for (int n = in.readUnsignedShort(); n > 0; n--) {
                in.skipBytes(6);
                skipAttributes(in);
            }
        }

        /** How many more places this constant takes. */
        private int constant(DataInputStream in, int i) throws IOException {
            int tag = in.readUnsignedByte();
            switch (tag) {
                case 1: texts[i] = in.readUTF(); return 0;
                case 7: case 8: first[i] = in.readUnsignedShort(); return 0;
                case 3: in.skipBytes(4); return 0;
                case 5: in.skipBytes(8); return 1;
                case 9: case 10: case 12:
                    first[i] = in.readUnsignedShort();
                    second[i] = in.readUnsignedShort();
                    return 0;
                default: throw new IOException("a constant of kind " + tag + ": no float, double, interface or lambda belongs here");
            }
        }

        private static void skipAttributes(DataInputStream in) throws IOException {
            for (int n = in.readUnsignedShort(); n > 0; n--) {
                in.skipBytes(2);
                in.readNBytes(in.readInt());
            }
        }

        void methods(String owner, DataInputStream in) throws IOException {
            for (int n = in.readUnsignedShort(); n > 0; n--) {
                in.skipBytes(2);
                method = owner + "." + texts[in.readUnsignedShort()];
                must(called.put(method, new TreeSet<>()) == null, method + " is there twice: this test tells methods by name");
                in.skipBytes(2);
                for (int attributes = in.readUnsignedShort(); attributes > 0; attributes--) {
                    boolean code = texts[in.readUnsignedShort()].equals("Code");
                    byte[] bytes = in.readNBytes(in.readInt());
                    if (code) code(new DataInputStream(new ByteArrayInputStream(bytes)));
                }
            }
        }

        private void code(DataInputStream in) throws IOException {
            in.skipBytes(4);
            byte[] code = in.readNBytes(in.readInt());
            must(in.readUnsignedShort() == 0, method + " catches something");
            int at = 0;
            for (; at < code.length; at += length(code, at)) instruction(code[at] & 255, code, at);
            must(at == code.length, method + " could not be read to its end");
        }

        private static int word(byte[] code, int at) {
            return (code[at] & 255) << 24 | (code[at + 1] & 255) << 16 | (code[at + 2] & 255) << 8 | code[at + 3] & 255;
        }

        private static int length(byte[] code, int at) {
            int opcode = code[at] & 255;
            int aligned = at + 4 & ~3;
            switch (opcode) {
                case 170: return aligned + 12 + 4 * (word(code, aligned + 8) - word(code, aligned + 4) + 1) - at;
                case 171: return aligned + 8 + 8 * word(code, aligned + 4) - at;
                case 196: return (code[at + 1] & 255) == 132 ? 6 : 4;
                default: return LENGTHS.charAt(opcode) - '0';
            }
        }

        private void instruction(int opcode, byte[] code, int at) {
            boolean real = opcode >= 11 && opcode <= 15 || opcode == 23 || opcode == 24 || opcode >= 34 && opcode <= 41
                || opcode >= 134 && opcode <= 144 && opcode != 136 || opcode >= 149 && opcode <= 152;
            must(!real, method + " has doubles or floats");
            must(opcode != 191, method + " throws");
            must(opcode != 185 && opcode != 186, method + " calls by an interface or a lambda");
            must(opcode != 192 && opcode != 193, method + " casts");
            must(opcode != 194 && opcode != 195, method + " is synchronized");
            boolean makes = opcode >= 187 && opcode <= 189 || opcode == 197;
            must(!makes || method.endsWith("<init>") || method.endsWith("<clinit>"), method + " makes something");
            if (opcode < 182 || opcode > 184) return;
            int callee = (code[at + 1] & 255) << 8 | code[at + 2] & 255;
            String owner = texts[first[first[callee]]];
            String name = texts[first[second[callee]]];
            if (owner.startsWith("SleptFor")) called.get(method).add(plain(owner) + "." + name);
            else must(LIBRARY.contains(owner + "." + name), method + " calls the library's " + owner + "." + name);
        }
    }

    private static String plain(String owner) {
        return owner.substring(owner.indexOf('$') + 1);
    }

    private static void read(Class<?> c) throws IOException {
        try (InputStream in = SleptFor.class.getResourceAsStream(c.getName() + ".class")) {
            DataInputStream data = new DataInputStream(new ByteArrayInputStream(in.readAllBytes()));
            new Compiled(data).methods(plain(c.getName()), data);
        }
    }

    private static Set<String> reached(String from) {
        Set<String> seen = new TreeSet<>();
        List<String> open = new ArrayList<>(called.get(from));
        while (!open.isEmpty()) {
            String next = open.remove(open.size() - 1);
            if (seen.add(next)) open.addAll(called.get(next));
        }
        return seen;
    }

    /** How many calls stand open at once from here on, those that call one another counted as one. */
    private static int deep(String from, Map<String, Set<String>> reach) {
        int most = 0;
        Set<String> group = new TreeSet<>(Set.of(from));
        for (String other : reach.get(from)) if (reach.get(other).contains(from)) group.add(other);
        for (String one : group) for (String next : called.get(one)) if (!group.contains(next)) most = Math.max(most, deep(next, reach));
        return most + 1;
    }

    private static void calls() {
        Map<String, Set<String>> reach = new TreeMap<>();
        for (String from : called.keySet()) reach.put(from, reached(from));
        Set<String> recursions = new TreeSet<>();
        for (String from : called.keySet()) {
            if (reach.get(from).contains(from)) {
                Set<String> group = new TreeSet<>();
                for (String other : reach.get(from)) if (reach.get(other).contains(from)) group.add(other);
                recursions.add(group.toString());
            }
            int deep = deep(from, reach);
            must(deep <= MOST_DEEP, from + " goes " + deep + " calls deep");
        }
        must(recursions.equals(RECURSIONS), "these call themselves: " + recursions);
    }

    public static void main(String[] args) throws IOException {
        must(LENGTHS.length() == 202, "lengths for " + LENGTHS.length() + " opcodes");
        read(SleptFor.class);
        for (Class<?> c : SleptFor.class.getDeclaredClasses()) read(c);
        calls();
        System.out.println(wrong == 0 ? called.size() + " methods keep to the rules" : wrong + " rules are broken");
        if (wrong != 0) System.exit(1);
    }
}
