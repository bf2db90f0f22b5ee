import java.util.Arrays;

/** WrackDeeds and the naive model side by side: each call goes to both, and what they answer is held together. */
final class Both {
    static final String[] NAMES = {"type", "wipe", "undo", "fault", "strand", "tide", "route", "event", "back",
        "read", "state", "says", "deed", "voids", "forged", "tangled", "reads", "tour", "hang", "save", "fill", "seen",
        "forget", "never", "was", "ask", "risk", "century", "sheet", "lose", "lay", "get", "copy", "write", "count", "digest"};
    private static int unlike = 0;
    private static long calls = 0;

    final WrackDeeds x = new WrackDeeds();
    final NaiveDeeds y = new NaiveDeeds();
    private final StringBuilder log = new StringBuilder();
    int made = 0;
    boolean well = true;

    static int unlike() { return unlike; }

    /** Prints how many calls there were, and ends with exit code 1 if one was answered unlike. */
    static void end() {
        System.out.println(calls + " calls held against the model, " + unlike + " unlike");
        if (unlike != 0) System.exit(1);
    }

    void text(int t, String all) {
        for (int i = 0; i < all.length(); i++) call("type", t, all.charAt(i));
    }

    long call(String name, int... a) {
        calls++;
        made++;
        log.append(' ').append(name).append(Arrays.toString(a));
        long got, want;
        switch (name) {
            case "type": got = x.type(a[0], a[1]); want = y.type(a[0], a[1]); break;
            case "wipe": got = x.wipe(a[0]); want = y.wipe(a[0]); break;
            case "undo": got = x.undo(a[0]); want = y.undo(a[0]); break;
            case "fault": got = x.fault(a[0]); want = y.fault(a[0]); break;
            case "strand": got = x.strand(a[0], a[1]); want = y.strand(a[0], a[1]); break;
            case "tide": got = x.tide(a[0]); want = y.tide(a[0]); break;
            case "route": got = x.route(a[0]); want = y.route(a[0]); break;
            case "event": got = x.event(a[0], a[1], a[2], a[3]); want = y.event(a[0], a[1], a[2], a[3]); break;
            case "back": got = x.back(); want = y.back(); break;
            case "read": got = x.read(a[0]); want = y.read(a[0]); break;
            case "state": got = x.state(a[0], a[1], a[2]); want = y.state(a[0], a[1], a[2]); break;
            case "says": got = x.says(a[0], a[1], a[2]); want = y.says(a[0], a[1], a[2]); break;
            case "deed": got = x.deed(a[0], a[1]); want = y.deed(a[0], a[1]); break;
            case "voids": got = x.voids(a[0]); want = y.voids(a[0]); break;
            case "forged": got = x.forged(); want = y.forged(); break;
            case "tangled": got = x.tangled(a[0]); want = y.tangled(a[0]); break;
            case "reads": got = x.reads(a[0]); want = y.reads(a[0]); break;
            case "tour": got = x.tour(a[0]); want = y.tour(a[0]); break;
            case "hang": got = x.hang(a[0], a[1]); want = y.hang(a[0], a[1]); break;
            case "save": got = x.save(a[0], a[1]); want = y.save(a[0], a[1]); break;
            case "fill": got = x.fill(a[0], a[1], a[2]); want = y.fill(a[0], a[1], a[2]); break;
            case "seen": got = x.seen(a[0], a[1], a[2]); want = y.seen(a[0], a[1], a[2]); break;
            case "forget": got = x.forget(); want = y.forget(); break;
            case "never": got = x.never(); want = y.never(); break;
            case "was": got = x.was(a[0], a[1]); want = y.was(a[0], a[1]); break;
            case "ask": got = x.ask(a[0]); want = y.ask(a[0]); break;
            case "risk": got = x.risk(a[0], a[1], a[2], a[3]); want = y.risk(a[0], a[1], a[2], a[3]); break;
            case "century": got = x.century(a[0], a[1], a[2]); want = y.century(a[0], a[1], a[2]); break;
            case "sheet": got = x.sheet(a[0], a[1], a[2]); want = y.sheet(a[0], a[1], a[2]); break;
            case "lose": got = x.lose(a[0]); want = y.lose(a[0]); break;
            case "lay": got = x.lay(a[0], a[1], a[2], a[3]); want = y.lay(a[0], a[1], a[2], a[3]); break;
            case "get": got = x.get(a[0], a[1], a[2]); want = y.get(a[0], a[1], a[2]); break;
            case "copy": got = x.copy(a[0], a[1], a[2], a[3], a[4]); want = y.copy(a[0], a[1], a[2], a[3], a[4]); break;
            case "write": got = x.write(a[0], a[1]); want = y.write(a[0], a[1]); break;
            case "count": got = x.count(a[0]); want = y.count(a[0]); break;
            default: got = x.digest(); want = y.digest(); break;
        }
        if (got != want) {
            unlike++;
            well = false;
            System.out.println(name + Arrays.toString(a) + " answered " + got + ", the model says " + want + "; the calls:" + log);
        }
        return got;
    }
}
