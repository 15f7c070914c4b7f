import java.lang.management.ManagementFactory;
import java.util.Arrays;
import java.util.Random;

/** No call throws, for any arguments in any state; what only asks changes nothing; and calls make next to no objects. */
public final class SafetyTest {
    private static final int[] EDGES = {Integer.MIN_VALUE, Integer.MIN_VALUE + 1, -256, -8, -2, -1, 0, 1, 2, 3, 4, 5, 6, 7, 8, 9, 10, 15, 16,
        23, 24, 30, 31, 32, 60, 61, 99, 100, 127, 128, 255, 256, 300, 512, 998, 999, 1000, 9999, 10000, 1 << 16, 1 << 30, Integer.MAX_VALUE - 1, Integer.MAX_VALUE};
    private static final String[] CHANGING = {"person", "work", "may", "hears", "wake", "sleep", "idle", "call", "repay", "hour", "year",
        "feed", "end", "text", "by", "played", "undo", "image", "back"};

    private static int drawn(Random random) {
        return random.nextInt(4) > 0 ? random.nextInt(9) : EDGES[random.nextInt(EDGES.length)];
    }

    private static int[] arguments(Random random) {
        int[] a = new int[5];
        for (int i = 0; i < 5; i++) a[i] = drawn(random);
        return a;
    }

    /** Signs of the language one behind the other, most of them at FAULT somewhere. */
    private static void feedNoise(SleptFor x, Random random) {
        String[] parts = {"worth ", "burn ", "sound ", "price ", "if ", "then ", "else ", "end ", "or ", "and ", "not ", "who ", "now ", "on ",
            "(", ")", "-", "+", "*", "/", "<", "<=", ">", ">=", "=", "#", ";", "1", "7", "9999", "10000", "hour 1;", "wake 0 at 0;", "sleep 1 for 0;"};
        StringBuilder s = new StringBuilder(random.nextInt(2) == 0 ? "worth " : "");
        for (int i = random.nextInt(60); i > 0; i--) s.append(parts[random.nextInt(parts.length)]);
        x.end(0);
        for (int i = 0; i + 20 <= s.length(); i += 20) {
            int[] a = new int[5];
            for (int j = 0; j < 20; j++) a[j / 4] = a[j / 4] << 8 | s.charAt(i + j);
            x.feed(a[0], a[1], a[2], a[3], a[4]);
        }
        x.text();
    }

    private static String state(SleptFor x) {
        StringBuilder s = new StringBuilder();
        for (int i = 0; i < 10; i++) s.append(x.about(i)).append(' ');
        for (int p = 0; p < 8; p++) {
            for (int i = 0; i < 12; i++) s.append(x.of(p, i)).append(' ');
            for (int q = 0; q < 8; q++) s.append(x.owes(p, q)).append(' ');
            s.append(x.ofWork(p, 2)).append(' ').append(x.fits(p)).append(' ');
        }
        return s.append(x.fault(0)).append(' ').append(x.fault(1)).toString();
    }

    private static boolean isChanging(String name) {
        return Arrays.asList(CHANGING).contains(name);
    }

    private static void run(long seed) {
        Random random = new Random(seed);
        SleptFor x = new SleptFor();
        for (int i = 0; i < 512; i++) {
            if (random.nextInt(40) == 0) feedNoise(x, random);
            String name = Calls.NAMES[random.nextInt(Calls.NAMES.length)];
            boolean watched = !isChanging(name) && random.nextInt(8) == 0;
            String ahead = watched ? state(x) : "";
            int[] a = arguments(random);
            Calls.real(x, name, a);
            if (watched && !state(x).equals(ahead)) {
                System.out.println("run " + seed + ": " + name + Arrays.toString(a) + " changed something");
                System.exit(1);
            }
        }
    }

    /** A long run of the dearest calls keeps far within the room that all calls share. */
    private static void room() {
        com.sun.management.ThreadMXBean bean = (com.sun.management.ThreadMXBean) ManagementFactory.getThreadMXBean();
        long id = Thread.currentThread().getId();
        busy(new SleptFor());
        long begun = bean.getThreadAllocatedBytes(id);
        SleptFor x = new SleptFor();
        long made = bean.getThreadAllocatedBytes(id);
        busy(x);
        long ended = bean.getThreadAllocatedBytes(id);
        if (made - begun > 200_000 || ended - made > 20_000) {
            System.out.println("an object takes " + (made - begun) + " bytes, 500 calls take " + (ended - made));
            System.exit(1);
        }
    }

    private static void busy(SleptFor x) {
        for (int i = 0; i < 8; i++) x.person(i, 9 - i);
        for (int i = 0; i < 6; i++) x.work(50, i);
        for (int i = 0; i < 8; i++) {
            for (int j = 0; j < 8; j++) {
                x.may(i, j);
                x.hears(i, j);
            }
        }
        for (int i = 0; i < 15; i++) {
            x.year(i, 30);
            x.hour(20);
            x.foretoldDone(60, 0);
            x.match(15, 0, 240, true, -1);
            x.whoCannot(15, 0, 240);
            x.rota(8, 15, 2, 2, -1);
            x.enough(5, 3, 3, 2, true);
            x.ring(-2);
            x.feed(0x686f7572, 0x20363b20, 0x20202020, 0x20202020, 0x20202020);
            x.text();
            x.played(0);
            x.image();
            x.undo();
            x.back();
            for (int p = 0; p < 8; p++) {
                x.strike(p);
                x.guard(p, 255 & ~(1 << p));
            }
        }
    }

    public static void main(String[] args) {
        for (int seed = 0; seed < 1500; seed++) run(seed);
        room();
        System.out.println("no call threw, nothing that asks changed anything");
    }
}
