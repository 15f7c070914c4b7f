import java.math.BigInteger;
import java.util.ArrayList;
import java.util.Arrays;
import java.util.List;
import java.util.TreeMap;

/**
 * The document again, written as slowly and as near to its words as can be: whole copies for STEPS and
 * IMAGES, texts that are read anew each time a law is asked for, and all choices gone through one by one.
 */
final class Model {
    static final int NONE = -1;

    /** What can be copied: all but the tape and the latest FAULT. */
    static final class World {
        List<int[]> people = new ArrayList<>();
        List<int[]> works = new ArrayList<>();
        boolean[][] may = new boolean[8][8];
        boolean[][] hears = new boolean[8][8];
        int[] doing = new int[8];
        int[] with = new int[8];
        int[] on = new int[8];
        int[] dream = new int[8];
        int[] done = new int[6];
        int[][] owes = new int[8][8];
        TreeMap<Integer, int[]> kept = new TreeMap<>();
        int hour;
        int x = 43;
        List<String> texts = new ArrayList<>();
        int ruling = NONE;
        List<World> steps = new ArrayList<>();

        World() {
            Arrays.fill(with, NONE);
        }

        World copy() {
            World w = new World();
            w.people = new ArrayList<>(people);
            w.works = new ArrayList<>(works);
            for (int i = 0; i < 8; i++) {
                w.may[i] = may[i].clone();
                w.hears[i] = hears[i].clone();
            }
            w.texts = new ArrayList<>(texts);
            w.ruling = ruling;
            w.steps = new ArrayList<>(steps);
            w.takeBack(this);
            return w;
        }

        /** What a STEP that is taken back sets. */
        void takeBack(World w) {
            doing = w.doing.clone();
            with = w.with.clone();
            on = w.on.clone();
            dream = w.dream.clone();
            done = w.done.clone();
            for (int i = 0; i < 8; i++) {
                owes[i] = w.owes[i].clone();
            }
            kept = new TreeMap<>(w.kept);
            hour = w.hour;
            x = w.x;
        }
    }

    World w = new World();
    World image = new World();
    StringBuilder tape = new StringBuilder();
    int fault = NONE;
    int place = NONE;

    boolean isPerson(int p) {
        return p >= 0 && p < w.people.size();
    }

    boolean isWork(int i) {
        return i >= 0 && i < w.works.size();
    }

    boolean isSet(int bits, int least, int most) {
        return bits >= 0 && bits < 1 << w.people.size() && Integer.bitCount(bits) >= least && Integer.bitCount(bits) <= most;
    }

    static boolean in(int p, int bits) {
        return p >= 0 && (bits & 1 << p) != 0;
    }

    int person(int depth, int voice) {
        if (depth < 0 || depth > 9 || voice < 0 || voice > 9 || w.people.size() == 8) return NONE;
        w.people.add(new int[] {depth, voice});
        return w.people.size() - 1;
    }

    int work(int needs, int noise) {
        if (needs < 1 || needs > 99 || noise < 0 || noise > 9 || w.works.size() == 6) return NONE;
        w.works.add(new int[] {needs, noise});
        return w.works.size() - 1;
    }

    boolean may(int a, int b) {
        if (!isPerson(a) || !isPerson(b) || a == b || w.may[a][b]) return false;
        return w.may[a][b] = true;
    }

    boolean hears(int a, int b) {
        if (!isPerson(a) || !isPerson(b) || a == b || w.hears[a][b]) return false;
        return w.hears[a][b] = w.hears[b][a] = true;
    }

    void step() {
        World ahead = new World();
        ahead.takeBack(w);
        w.steps.add(ahead);
        if (w.steps.size() > 30) w.steps.remove(0);
    }

    void set(int p, int doing, int with) {
        w.doing[p] = doing;
        w.with[p] = with;
        w.on[p] = 0;
    }

    boolean wake(int p, int work) {
        if (!isPerson(p) || !isWork(work) || w.doing[p] != 0) return false;
        step();
        set(p, 1, work);
        return true;
    }

    boolean sleep(int p, int whom) {
        if (!isPerson(p) || !isPerson(whom) || w.doing[p] != 0 || !w.may[p][whom]) return false;
        step();
        set(p, 2, whom);
        return true;
    }

    boolean idle(int p) {
        if (!isPerson(p) || w.doing[p] == 0) return false;
        step();
        set(p, 0, NONE);
        return true;
    }

    int worth(int p, int whom, int on, int dream) {
        return law("worth", 10, 99, p, on, dream, whom, NONE, NONE);
    }

    int burn(int p, int task, int on) {
        return law("burn", 10, 99, p, on, 0, NONE, task, NONE);
    }

    int sound(int p) {
        return law("sound", w.people.get(p)[0], 99, p, w.on[p], 0, NONE, NONE, NONE);
    }

    int price(int p, int owed) {
        return law("price", 1, 999, p, 0, 0, NONE, NONE, owed);
    }

    int law(String which, int without, int most, int who, int on, int dream, int whom, int task, int owed) {
        if (w.ruling == NONE) return without;
        Script s = new Script(w.texts.get(w.ruling));
        s.names.put("who", who);
        s.names.put("now", w.hour);
        s.names.put("on", on);
        s.names.put("depth", w.people.get(who)[0]);
        s.names.put("dream", dream);
        s.names.put("whom", whom);
        s.names.put("task", task);
        s.names.put("noise", task == NONE ? 0 : w.works.get(task)[1]);
        s.names.put("owed", owed);
        s.read();
        Long value = s.laws.get(which);
        return value == null ? without : (int) Math.max(0, Math.min(most, value));
    }

    int draw(int by) {
        int drawn = w.x % by;
        w.x = (w.x * 241 + 139) % 30211;
        return drawn;
    }

    /** Rounds of VOICES from those WOKEN; the guarded ones are not WOKEN. */
    int rounds(int woken, int guarded) {
        while (true) {
            int more = woken;
            for (int p = 0; p < w.people.size(); p++) {
                if (w.doing[p] != 2 || in(p, woken) || in(p, guarded)) continue;
                for (int q = 0; q < w.people.size(); q++) {
                    if (w.hears[p][q] && in(q, woken) && w.people.get(q)[1] > sound(p)) more |= 1 << p;
                }
            }
            if (more == woken) return woken;
            woken = more;
        }
    }

    int call(int p) {
        if (!isPerson(p) || w.doing[p] != 2) return NONE;
        step();
        return called(p);
    }

    int called(int p) {
        int woken = rounds(1 << p, 0);
        for (int q = 0; q < 8; q++) if (in(q, woken)) set(q, 0, NONE);
        return Integer.bitCount(woken);
    }

    int repay(int p, int whom, int k) {
        if (!isPerson(p) || !isPerson(whom) || p == whom || k < 1 || k > w.owes[p][whom]) return NONE;
        step();
        return w.owes[p][whom] -= k;
    }

    int fuel(int p) {
        int fuel = 0;
        for (int q = 0; q < w.people.size(); q++) {
            if (w.doing[q] == 2 && w.with[q] == p) fuel += worth(q, p, w.on[q], w.dream[q]);
        }
        return fuel;
    }

    int[] anHour() {
        int n = w.people.size();
        int ran = 0;
        int stopped = 0;
        int slept = 0;
        for (int p = 0; p < n; p++) {
            if (w.doing[p] == 2) {
                slept |= 1 << p;
                w.dream[p] = draw(10);
            }
        }
        for (int p = 0; p < n; p++) {
            if (w.doing[p] != 1) continue;
            if (fuel(p) < burn(p, w.with[p], w.on[p])) {
                stopped |= 1 << p;
                continue;
            }
            ran |= 1 << p;
            w.done[w.with[p]] = Math.min(w.works.get(w.with[p])[0], w.done[w.with[p]] + 1);
            for (int q = 0; q < n; q++) {
                if (w.doing[q] == 2 && w.with[q] == p) w.owes[p][q] = Math.min(99, w.owes[p][q] + 1);
            }
        }
        int woken = 0;
        for (int p = 0; p < n; p++) {
            for (int q = 0; q < n && w.doing[p] == 2; q++) {
                if (w.hears[p][q] && in(q, ran) && w.works.get(w.with[q])[1] > sound(p)) woken |= 1 << p;
            }
        }
        woken = rounds(woken, 0);
        for (int p = 0; p < n; p++) {
            if (in(p, woken | stopped)) set(p, 0, NONE);
            else if (w.doing[p] != 0) w.on[p]++;
        }
        int[] entry = {ran, stopped, slept};
        w.kept.put(w.hour, entry);
        while (w.kept.size() > 60) w.kept.remove(w.kept.firstKey());
        w.hour++;
        return entry;
    }

    int hour(int n) {
        if (n < 1 || n > 60 || w.hour + n > 999) return NONE;
        int ran = 0;
        for (int i = 0; i < n; i++) {
            step();
            ran += Integer.bitCount(anHour()[0]);
        }
        return ran;
    }

    int year(int seed, int n) {
        if (seed < 0 || seed > 9999 || n < 1 || n > 30 || w.people.isEmpty()) return NONE;
        step();
        w.x = seed * 2 + 43;
        int ran = 0;
        for (int i = 0; i < n; i++) {
            int what = draw(8);
            if (what < 3) {
                int p = draw(w.people.size());
                for (int q = 0; q < 8 && w.doing[p] == 0; q++) {
                    if (w.may[p][q] && w.doing[q] == 1) set(p, 2, q);
                }
            } else if (what == 3) {
                if (w.works.isEmpty()) continue;
                int p = draw(w.people.size());
                int work = draw(w.works.size());
                if (w.doing[p] == 0) set(p, 1, work);
            } else if (what == 4) {
                int p = draw(w.people.size());
                if (w.doing[p] == 2) called(p);
            } else if (w.hour < 999) {
                ran += Integer.bitCount(anHour()[0]);
            }
        }
        return ran;
    }

    int feed(int a, int b, int c, int d, int e) {
        if (tape.length() + 20 > 300) return NONE;
        for (int word : new int[] {a, b, c, d, e}) {
            for (int i = 3; i >= 0; i--) tape.append((char) (word >>> 8 * i & 255));
        }
        return tape.length();
    }

    int end(int n) {
        if (n < 0 || n > tape.length()) return NONE;
        tape.setLength(n);
        return n;
    }

    int text() {
        if (w.texts.size() == 4) return NONE;
        Script s = new Script(tape.toString());
        tape.setLength(0);
        s.read();
        fault = s.fault;
        place = s.place;
        if (fault != 0) return NONE;
        w.texts.add(s.text);
        return w.texts.size() - 1;
    }

    int fault(int what) {
        return what == 0 ? fault : what == 1 ? place : NONE;
    }

    boolean by(int text) {
        if (text < NONE || text >= w.texts.size()) return false;
        w.ruling = text;
        return true;
    }

    int played(int text) {
        if (text < 0 || text >= w.texts.size()) return -2;
        Script s = new Script(w.texts.get(text));
        s.read();
        for (int i = 0; i < s.clauses.size(); i++) {
            List<Object> c = s.clauses.get(i);
            int a = c.size() > 1 ? (Integer) c.get(1) : 0;
            int b = c.size() > 2 ? (Integer) c.get(2) : 0;
            boolean can = true;
            switch ((String) c.get(0)) {
                case "wake": can = wake(a, b); break;
                case "sleep": can = sleep(a, b); break;
                case "idle": can = idle(a); break;
                case "call": can = call(a) != NONE; break;
                case "repay": can = repay(a, b, (Integer) c.get(3)) != NONE; break;
                case "hour":
                    for (int h = 0; h < a && can; h++) can = hour(1) != NONE;
                    break;
                default: break;
            }
            if (!can) return i;
        }
        return NONE;
    }

    int undo() {
        if (w.steps.isEmpty()) return NONE;
        w.takeBack(w.steps.remove(w.steps.size() - 1));
        return w.steps.size();
    }

    int bits(boolean[] row) {
        int bits = 0;
        for (int i = 0; i < 8; i++) if (row[i]) bits |= 1 << i;
        return bits;
    }

    int of(int p, int what) {
        if (!isPerson(p)) return -2;
        boolean awake = w.doing[p] == 1;
        switch (what) {
            case 0: case 1: return w.people.get(p)[what];
            case 2: return w.doing[p];
            case 3: return w.with[p];
            case 4: return w.on[p];
            case 5: return w.dream[p];
            case 6: return bits(w.may[p]);
            case 7: return bits(w.hears[p]);
            case 8: return sound(p);
            case 9: return awake ? burn(p, w.with[p], w.on[p]) : NONE;
            case 10: return w.doing[p] == 2 ? worth(p, w.with[p], w.on[p], w.dream[p]) : NONE;
            case 11: return awake ? fuel(p) : NONE;
            default: return -2;
        }
    }

    int ofWork(int work, int what) {
        if (!isWork(work) || what < 0 || what > 2) return NONE;
        return what == 2 ? w.done[work] : w.works.get(work)[what];
    }

    int owes(int p, int whom) {
        return isPerson(p) && isPerson(whom) ? w.owes[p][whom] : NONE;
    }

    int kept(int hour, int what) {
        return w.kept.containsKey(hour) && what >= 0 && what <= 2 ? w.kept.get(hour)[what] : NONE;
    }

    int foretoldDone(int n, int work) {
        if (n < 1 || n > 60 || !isWork(work)) return NONE;
        World now = w.copy();
        for (int i = 0; i < n; i++) anHour();
        int done = w.done[work];
        w = now;
        return done;
    }

    int foretoldStop(int n, int p) {
        if (n < 1 || n > 60 || !isPerson(p)) return NONE;
        World now = w.copy();
        int first = NONE;
        for (int i = 1; i <= n && first == NONE; i++) if (in(p, anHour()[1])) first = i;
        w = now;
        return first;
    }

    boolean isPairing(int wakers, int work, int sleepers) {
        return isSet(wakers, 1, 4) && isSet(sleepers, 1, 6) && (wakers & sleepers) == 0 && isWork(work);
    }

    static List<Integer> list(int bits) {
        List<Integer> list = new ArrayList<>();
        for (int i = 0; i < 8; i++) if (in(i, bits)) list.add(i);
        return list;
    }

    int match(int wakers, int work, int sleepers, boolean dear, int sleeper) {
        if (!isPairing(wakers, work, sleepers) || sleeper != NONE && (sleeper < 0 || sleeper > 7 || !in(sleeper, sleepers))) return NONE;
        List<Integer> ws = list(wakers);
        List<Integer> ss = list(sleepers);
        int base = ws.size() + 1;
        int all = (int) Math.round(Math.pow(base, ss.size()));
        int[] best = null;
        int[] bestWhom = null;
        int[][] worth = new int[8][8];
        int[][] price = new int[8][8];
        int[] burn = new int[8];
        for (int q : ws) {
            burn[q] = burn(q, work, 0);
            for (int s : ss) {
                worth[s][q] = worth(s, q, 0, 0);
                price[s][q] = price(s, w.owes[q][s]);
            }
        }
        for (int code = 0; code < all; code++) {
            int[] whom = new int[ss.size()];
            int[] fuel = new int[8];
            int left = code;
            boolean can = true;
            int count = 0;
            int cost = 0;
            for (int i = ss.size() - 1; i >= 0; i--) {
                int choice = left % base;
                left /= base;
                whom[i] = choice == base - 1 ? 8 : ws.get(choice);
                if (whom[i] == 8) continue;
                can &= w.may[ss.get(i)][whom[i]];
                fuel[whom[i]] += worth[ss.get(i)][whom[i]];
                cost += price[ss.get(i)][whom[i]];
                count++;
            }
            for (int q : ws) can &= fuel[q] >= burn[q];
            int[] key = dear ? new int[] {cost, count} : new int[] {count, 0};
            if (can && (best == null || Arrays.compare(key, best) < 0)) {
                best = key;
                bestWhom = whom;
            }
        }
        if (best == null) return NONE;
        return sleeper == NONE ? best[0] : bestWhom[ss.indexOf(sleeper)];
    }

    int whoCannot(int wakers, int work, int sleepers) {
        if (!isPairing(wakers, work, sleepers)) return NONE;
        for (int set = 1; set < 256; set++) {
            if ((set & ~wakers) != 0) continue;
            int burns = 0;
            for (int q : list(set)) burns += burn(q, work, 0);
            int worths = 0;
            for (int s : list(sleepers)) {
                int greatest = 0;
                for (int q : list(set)) if (w.may[s][q]) greatest = Math.max(greatest, worth(s, q, 0, 0));
                worths += greatest;
            }
            if (burns > worths) return set;
        }
        return NONE;
    }

    int behind(int p, int other) {
        if (!isPerson(p) || other != NONE && !isPerson(other)) return NONE;
        int[] tier = new int[8];
        Arrays.fill(tier, NONE);
        tier[p] = 0;
        for (int k = 1; k < 9; k++) {
            for (int q = 0; q < 8; q++) {
                for (int r = 0; r < 8 && tier[q] == NONE; r++) if (tier[r] == k - 1 && w.may[q][r]) tier[q] = k;
            }
        }
        if (other != NONE) return tier[other];
        int count = 0;
        for (int t : tier) if (t > 0) count++;
        return count;
    }

    int valley(int a, int v) {
        if (a < 1 || a > 23 || v < 1 || v > 99) return NONE;
        for (int n = 2; n < 100; n++) {
            int awake = 0;
            while ((n - awake - 1) * v >= 10 * (awake + 1)) awake++;
            if (24 * awake >= n * a) return n;
        }
        return NONE;
    }

    int rota(int n, int people, int e, int r, int hour) {
        if (n < 1 || n > 8 || e < 1 || e > 8 || r < 0 || r > 8 || !isSet(people, 1, 4)) return NONE;
        if (hour < NONE || hour >= n) return NONE;
        int[] plan = bestRota(n, people, e, r);
        if (plan == null) return NONE;
        return hour == NONE ? changes(plan) : plan[hour];
    }

    /** All plans one by one, those with the lowest PEOPLE ahead first; null: there is none. */
    static int[] bestRota(int n, int people, int e, int r) {
        List<Integer> ps = list(people);
        int all = (int) Math.round(Math.pow(ps.size(), n));
        int[] best = null;
        for (int code = 0; code < all; code++) {
            int[] plan = new int[n];
            int left = code;
            for (int i = n - 1; i >= 0; i--) {
                plan[i] = ps.get(left % ps.size());
                left /= ps.size();
            }
            if ((best == null || changes(plan) < changes(best)) && isRota(plan, e, r)) best = plan;
        }
        return best;
    }

    static int changes(int[] plan) {
        int changes = 0;
        for (int i = 1; i < plan.length; i++) if (plan[i] != plan[i - 1]) changes++;
        return changes;
    }

    static boolean isRota(int[] plan, int e, int r) {
        int n = plan.length;
        for (int i = 0; i < n; ) {
            int j = i;
            while (j < n && plan[j] == plan[i]) j++;
            if (j - i > e) return false;
            for (int k = j; k < n && k < j + r; k++) if (plan[k] == plan[i]) return false;
            i = j;
        }
        return true;
    }

    int chain(int p) {
        return isPerson(p) && w.doing[p] == 2 ? rounds(1 << p, 0) : NONE;
    }

    int guard(int p, int people) {
        if (!isPerson(p) || w.doing[p] != 2 || !isSet(people, 1, 8) || in(p, people)) return NONE;
        for (int size = 0; size < 8; size++) {
            for (int set = 0; set < 256; set++) {
                boolean asleep = !in(p, set) && Integer.bitCount(set) == size;
                for (int q : list(set)) asleep &= w.doing[q] == 2;
                if (asleep && (rounds(1 << p, set) & people) == 0) return set;
            }
        }
        return NONE;
    }

    /** Goes through each set of those that sleep on. */
    long enough(int k, int p, int n, int m, boolean low) {
        if (k < 1 || k > 5 || p < 0 || p > 10 || n < 0 || n > 15 || k * n > 15 || m < 0 || m > 5) return NONE;
        BigInteger stay = BigInteger.valueOf(10 - p).pow(n);
        BigInteger all = BigInteger.TEN.pow(n);
        BigInteger upper = BigInteger.ZERO;
        for (int set = 0; set < 1 << k; set++) {
            BigInteger odds = BigInteger.ONE;
            for (int i = 0; i < k; i++) odds = odds.multiply(in(i, set) ? stay : all.subtract(stay));
            if (Integer.bitCount(set) >= m) upper = upper.add(odds);
        }
        BigInteger lower = all.pow(k);
        BigInteger gcd = upper.gcd(lower);
        return (low ? lower : upper).divide(gcd).longValueExact();
    }

    List<Integer> bestRing;

    int ring(int i) {
        bestRing = null;
        for (int p = 0; p < 8; p++) grow(new ArrayList<>(List.of(p)));
        if (bestRing == null) return NONE;
        if (i == NONE) return bestRing.size();
        if (i == -2) {
            int least = 99;
            for (int k = 0; k < bestRing.size(); k++) {
                least = Math.min(least, w.owes[bestRing.get(k)][bestRing.get((k + 1) % bestRing.size())]);
            }
            return least;
        }
        return i >= 0 && i < bestRing.size() ? bestRing.get(i) : NONE;
    }

    void grow(List<Integer> ring) {
        int last = ring.get(ring.size() - 1);
        if (ring.size() > 1 && w.owes[last][ring.get(0)] > 0 && (bestRing == null || ring.size() < bestRing.size())) {
            bestRing = new ArrayList<>(ring);
        }
        for (int q = ring.get(0) + 1; q < 8; q++) {
            if (w.owes[last][q] == 0 || ring.contains(q)) continue;
            ring.add(q);
            grow(ring);
            ring.remove(ring.size() - 1);
        }
    }

    int without(int people) {
        if (people < 0 || people > 255) return NONE;
        int stop = 0;
        for (int p = 0; p < w.people.size(); p++) {
            if (w.doing[p] != 1) continue;
            int fuel = 0;
            for (int q = 0; q < w.people.size(); q++) {
                if (w.doing[q] == 2 && w.with[q] == p && !in(q, people)) fuel += worth(q, p, w.on[q], 0);
            }
            if (fuel < burn(p, w.with[p], w.on[p])) stop |= 1 << p;
        }
        return stop;
    }

    int strike(int p) {
        if (!isPerson(p) || w.doing[p] != 1) return NONE;
        for (int size = 0; size <= 8; size++) {
            for (int set = 0; set < 256; set++) {
                boolean asleep = Integer.bitCount(set) == size;
                for (int q : list(set)) asleep &= w.doing[q] == 2;
                if (asleep && in(p, without(set))) return set;
            }
        }
        return NONE;
    }

    int fits(int p) {
        if (!isPerson(p)) return NONE;
        int fit = (1 << w.people.size()) - 1;
        boolean any = false;
        for (int[] entry : w.kept.values()) {
            if (in(p, entry[0])) fit &= entry[2];
            if (in(p, entry[1])) fit &= ~entry[2];
            any |= in(p, entry[0] | entry[1]);
        }
        return any ? fit : NONE;
    }

    int forNobody() {
        int bits = 0;
        for (int p = 0; p < 8; p++) if (w.doing[p] == 2 && w.doing[w.with[p]] != 1) bits |= 1 << p;
        return bits;
    }

    int image() {
        image = w.copy();
        return w.hour;
    }

    int back() {
        w = image.copy();
        return w.hour;
    }

    int about(int what) {
        int awake = 0;
        int asleep = 0;
        for (int p = 0; p < 8; p++) {
            if (w.doing[p] == 1) awake |= 1 << p;
            if (w.doing[p] == 2) asleep |= 1 << p;
        }
        int[] all = {w.people.size(), w.works.size(), w.hour, w.x, w.texts.size(), w.ruling, w.steps.size(), awake, asleep, tape.length()};
        return what < 0 || what >= all.length ? -2 : all[what];
    }
}
