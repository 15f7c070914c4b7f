/** One call by its number, on the class and on the Model. A boolean counts 1 or 0. */
final class Calls {
    static final String[] NAMES = {"person", "work", "may", "hears", "wake", "sleep", "idle", "call", "repay", "hour", "year",
        "feed", "end", "text", "fault", "by", "played", "undo", "of", "ofWork", "owes", "kept", "foretoldDone", "foretoldStop",
        "match", "whoCannot", "behind", "valley", "rota", "chain", "guard", "enough", "ring", "without", "strike", "fits",
        "forNobody", "image", "back", "about"};

    private Calls() {
    }

    private static long flag(boolean b) {
        return b ? 1 : 0;
    }

    static long real(SleptFor x, String name, int... a) {
        switch (name) {
            case "person": return x.person(a[0], a[1]);
            case "work": return x.work(a[0], a[1]);
            case "may": return flag(x.may(a[0], a[1]));
            case "hears": return flag(x.hears(a[0], a[1]));
            case "wake": return flag(x.wake(a[0], a[1]));
            case "sleep": return flag(x.sleep(a[0], a[1]));
            case "idle": return flag(x.idle(a[0]));
            case "call": return x.call(a[0]);
            case "repay": return x.repay(a[0], a[1], a[2]);
            case "hour": return x.hour(a[0]);
            case "year": return x.year(a[0], a[1]);
            case "feed": return x.feed(a[0], a[1], a[2], a[3], a[4]);
            case "end": return x.end(a[0]);
            case "text": return x.text();
            case "fault": return x.fault(a[0]);
            case "by": return flag(x.by(a[0]));
            case "played": return x.played(a[0]);
            case "undo": return x.undo();
            case "of": return x.of(a[0], a[1]);
            case "ofWork": return x.ofWork(a[0], a[1]);
            case "owes": return x.owes(a[0], a[1]);
            case "kept": return x.kept(a[0], a[1]);
            case "foretoldDone": return x.foretoldDone(a[0], a[1]);
            case "foretoldStop": return x.foretoldStop(a[0], a[1]);
            case "match": return x.match(a[0], a[1], a[2], a[3] == 1, a[4]);
            case "whoCannot": return x.whoCannot(a[0], a[1], a[2]);
            case "behind": return x.behind(a[0], a[1]);
            case "valley": return x.valley(a[0], a[1]);
            case "rota": return x.rota(a[0], a[1], a[2], a[3], a[4]);
            case "chain": return x.chain(a[0]);
            case "guard": return x.guard(a[0], a[1]);
            case "enough": return x.enough(a[0], a[1], a[2], a[3], a[4] == 1);
            case "ring": return x.ring(a[0]);
            case "without": return x.without(a[0]);
            case "strike": return x.strike(a[0]);
            case "fits": return x.fits(a[0]);
            case "forNobody": return x.forNobody();
            case "image": return x.image();
            case "back": return x.back();
            case "about": return x.about(a[0]);
            default: throw new IllegalArgumentException(name);
        }
    }

    static long model(Model x, String name, int... a) {
        switch (name) {
            case "person": return x.person(a[0], a[1]);
            case "work": return x.work(a[0], a[1]);
            case "may": return flag(x.may(a[0], a[1]));
            case "hears": return flag(x.hears(a[0], a[1]));
            case "wake": return flag(x.wake(a[0], a[1]));
            case "sleep": return flag(x.sleep(a[0], a[1]));
            case "idle": return flag(x.idle(a[0]));
            case "call": return x.call(a[0]);
            case "repay": return x.repay(a[0], a[1], a[2]);
            case "hour": return x.hour(a[0]);
            case "year": return x.year(a[0], a[1]);
            case "feed": return x.feed(a[0], a[1], a[2], a[3], a[4]);
            case "end": return x.end(a[0]);
            case "text": return x.text();
            case "fault": return x.fault(a[0]);
            case "by": return flag(x.by(a[0]));
            case "played": return x.played(a[0]);
            case "undo": return x.undo();
            case "of": return x.of(a[0], a[1]);
            case "ofWork": return x.ofWork(a[0], a[1]);
            case "owes": return x.owes(a[0], a[1]);
            case "kept": return x.kept(a[0], a[1]);
            case "foretoldDone": return x.foretoldDone(a[0], a[1]);
            case "foretoldStop": return x.foretoldStop(a[0], a[1]);
            case "match": return x.match(a[0], a[1], a[2], a[3] == 1, a[4]);
            case "whoCannot": return x.whoCannot(a[0], a[1], a[2]);
            case "behind": return x.behind(a[0], a[1]);
            case "valley": return x.valley(a[0], a[1]);
            case "rota": return x.rota(a[0], a[1], a[2], a[3], a[4]);
            case "chain": return x.chain(a[0]);
            case "guard": return x.guard(a[0], a[1]);
            case "enough": return x.enough(a[0], a[1], a[2], a[3], a[4] == 1);
            case "ring": return x.ring(a[0]);
            case "without": return x.without(a[0]);
            case "strike": return x.strike(a[0]);
            case "fits": return x.fits(a[0]);
            case "forNobody": return x.forNobody();
            case "image": return x.image();
            case "back": return x.back();
            case "about": return x.about(a[0]);
            default: throw new IllegalArgumentException(name);
        }
    }
}
