import java.util.Random;

/** Holds WrackDeeds against the naive model, call by call, in many runs by a fixed seed. */
public final class ModelTest {
    private static final int RUNS = 1000, CALLS = 300;
    private static final String[] NAMES = {"type", "wipe", "undo", "fault", "strand", "tide", "route", "event", "back",
        "read", "state", "says", "deed", "voids", "forged", "tangled", "reads", "tour", "hang", "save", "fill", "seen",
        "forget", "never", "was", "ask", "risk", "century", "sheet", "lose", "lay", "get", "copy", "write", "count", "digest"};
    private static int wrong = 0;
    private static long calls = 0;
    private static Random r;
    private static WrackDeeds x;
    private static NaiveDeeds y;
    private static StringBuilder log;

    public static void main(String[] args) {
        for (int run = 0; run < RUNS && wrong < 20; run++) {
            r = new Random(7919L * run + 1);
            x = new WrackDeeds();
            y = new NaiveDeeds();
            log = new StringBuilder();
            int most = run % 25 == 0 ? 8 : 1 + r.nextInt(5);
            int before = wrong;
            setUp(most);
            for (int k = 0; k < CALLS && wrong == before; k++) step(most);
            if (wrong != before) System.out.println("  run " + run + ":" + log);
        }
        System.out.println(calls + " calls held against the model, " + wrong + " unlike");
        if (wrong != 0) System.exit(1);
    }

    private static void setUp(int most) {
        text(0, strands(most));
        text(1, tides());
        text(2, route(most));
    }

    private static void step(int most) {
        int dice = r.nextInt(200);
        if (dice == 0) { call("wipe", 0); text(0, strands(most)); }
        else if (dice == 1) { call("wipe", 1); text(1, tides()); }
        else if (dice == 2) { call("wipe", 2); text(2, route(most)); }
        else if (dice < 12) call("event", r.nextInt(3), r.nextInt(20), r.nextInt(most), r.nextInt(10));
        else if (dice < 18) sight(most);
        else if (dice == 18) call("digest");
        else {
            String name = NAMES[r.nextInt(NAMES.length - 1)];
            // Few of these, or little would stay told.
            if ((name.equals("type") || name.equals("wipe") || name.equals("undo") || name.equals("forget")) && r.nextInt(8) != 0) return;
            int[] a = arguments(name, most);
            if (a.length > 0 && r.nextInt(12) == 0) a[r.nextInt(a.length)] = strange();
            call(name, a);
        }
    }

    /** Mostly something that is so, or so it would be hard to see anything come out. */
    private static void sight(int most) {
        int hour = r.nextInt(20), s = r.nextInt(most), state = y.state(hour, s, 0);
        if (state < 0 || r.nextInt(6) == 0) state = r.nextInt(5);
        call("seen", hour, s, state);
    }

    private static int strange() {
        switch (r.nextInt(5)) {
            case 0: return -1 - r.nextInt(3);
            case 1: return Integer.MIN_VALUE;
            case 2: return Integer.MAX_VALUE;
            case 3: return r.nextInt();
            default: return r.nextInt(80);
        }
    }

    private static int[] arguments(String name, int most) {
        int hour = r.nextInt(20), s = r.nextInt(most + (r.nextInt(10) == 0 ? 2 : 0)), sheet = r.nextInt(4);
        switch (name) {
            case "type": return new int[] {r.nextInt(3), "09wkdabch;".charAt(r.nextInt(10))};
            case "wipe": case "undo": case "fault": return new int[] {r.nextInt(3)};
            case "strand": return new int[] {s, r.nextInt(10)};
            case "tide": case "voids": return new int[] {hour};
            case "route": return new int[] {r.nextInt(9)};
            case "event": return new int[] {r.nextInt(3), hour, r.nextInt(8), r.nextInt(10)};
            case "read": case "lose": return new int[] {sheet};
            case "state": return new int[] {hour, s, r.nextInt(2)};
            case "says": return new int[] {hour, s, r.nextInt(6)};
            case "deed": case "was": return new int[] {s, r.nextInt(2)};
            case "tangled": return new int[] {r.nextInt(2)};
            case "reads": return new int[] {r.nextInt(9)};
            case "tour": return new int[] {r.nextInt(10)};
            case "hang": return new int[] {r.nextInt(3), r.nextInt(2)};
            case "save": return new int[] {s, r.nextInt(3) - 1};
            case "fill": return new int[] {hour, s, r.nextInt(7) - 1};
            case "seen": return new int[] {hour, s, r.nextInt(5)};
            case "ask": return new int[] {s};
            case "risk": return new int[] {r.nextInt(17), s, hour, r.nextInt(2)};
            case "century": return new int[] {r.nextInt(), r.nextInt(9), r.nextInt(2)};
            case "sheet": return new int[] {sheet, r.nextInt(3), r.nextInt(3) == 0 ? r.nextInt(63) - 1 : r.nextInt(10)};
            case "lay": return new int[] {sheet, r.nextInt(3), r.nextInt(10), r.nextInt(3) == 0 ? r.nextInt() : r.nextInt(3)};
            case "get": return new int[] {sheet, r.nextInt(3), r.nextInt(10)};
            case "copy": return new int[] {sheet, r.nextInt(5), r.nextInt(4), r.nextInt(5), r.nextInt(6)};
            case "write": return new int[] {s, sheet};
            case "count": return new int[] {r.nextInt(10)};
            default: return new int[0];
        }
    }

    private static void text(int t, String all) {
        for (int i = 0; i < all.length(); i++) call("type", t, all.charAt(i));
    }

    private static String strands(int most) {
        int n = r.nextInt(6) == 0 ? r.nextInt(most + 1) : most, spread = 1 + r.nextInt(10), least = r.nextInt(11 - spread);
        StringBuilder sb = new StringBuilder();
        for (int s = 0; s < n; s++) {
            if (s > 0) sb.append(';');
            sb.append((char) ('0' + least + r.nextInt(spread))).append("wkd".charAt(r.nextInt(3)));
            int long_ = 1 + r.nextInt(6);
            for (int i = 0; i < long_; i++) {
                // Now and then in twos, or what is forged would never come.
                char c = (char) ('a' + r.nextInt(4));
                sb.append(i % 2 == 1 && n % 2 == 0 ? sb.charAt(sb.length() - 1) : c);
            }
        }
        if (r.nextInt(12) == 0 && sb.length() > 0) sb.setCharAt(r.nextInt(sb.length()), "x;9ad".charAt(r.nextInt(5)));
        return sb.toString();
    }

    private static String tides() {
        StringBuilder sb = new StringBuilder();
        int n = r.nextInt(3) == 0 ? r.nextInt(21) : 20, level = r.nextInt(10);
        for (int h = 0; h < n; h++) {
            level = Math.max(0, Math.min(9, level + r.nextInt(3) - 1));
            sb.append((char) ('0' + level));
        }
        if (r.nextInt(20) == 0 && n > 0) sb.setCharAt(r.nextInt(n), '/');
        return sb.toString();
    }

    private static String route(int most) {
        StringBuilder sb = new StringBuilder();
        int n = r.nextInt(9);
        for (int i = 0; i < n; i++) sb.append((char) ('a' + r.nextInt(r.nextInt(10) == 0 ? 8 : most)));
        if (r.nextInt(20) == 0 && n > 0) sb.setCharAt(r.nextInt(n), 'i');
        return sb.toString();
    }

    private static void call(String name, int... a) {
        calls++;
        log.append(' ').append(name).append(java.util.Arrays.toString(a));
        long got, want;
        switch (name) {
            case "type": got = x.type(a[0], a[1]); want = y.type(a[0], a[1]); break;
            case "wipe": got = x.wipe(a[0]); want = y.wipe(a[0]); break;
            case "undo": got = x.undo(a[0]); want = y.undo(a[0]); break;
            case "fault": got = x.fault(a[0]); want = y.fault(a[0]); break;
            case "strand": got = x.strand(a[0], a[1]); want = y.strand(a[0], a[1]); break;
            case "tide": got = x.tide(a[0]); want = y.tide(a[0]); break;
            case "route": got = x.route(a[0]); want = y.route(a[0]); break;
            case "event": got = x.event(a[0], a[1], a[2], a[3]); want = y.event(a[0], a[1], a[2], a[3]); break;
            case "back": got = x.back(); want = y.back(); break;
            case "read": got = x.read(a[0]); want = y.read(a[0]); break;
            case "state": got = x.state(a[0], a[1], a[2]); want = y.state(a[0], a[1], a[2]); break;
            case "says": got = x.says(a[0], a[1], a[2]); want = y.says(a[0], a[1], a[2]); break;
            case "deed": got = x.deed(a[0], a[1]); want = y.deed(a[0], a[1]); break;
            case "voids": got = x.voids(a[0]); want = y.voids(a[0]); break;
            case "forged": got = x.forged(); want = y.forged(); break;
            case "tangled": got = x.tangled(a[0]); want = y.tangled(a[0]); break;
            case "reads": got = x.reads(a[0]); want = y.reads(a[0]); break;
            case "tour": got = x.tour(a[0]); want = y.tour(a[0]); break;
            case "hang": got = x.hang(a[0], a[1]); want = y.hang(a[0], a[1]); break;
            case "save": got = x.save(a[0], a[1]); want = y.save(a[0], a[1]); break;
            case "fill": got = x.fill(a[0], a[1], a[2]); want = y.fill(a[0], a[1], a[2]); break;
            case "seen": got = x.seen(a[0], a[1], a[2]); want = y.seen(a[0], a[1], a[2]); break;
            case "forget": got = x.forget(); want = y.forget(); break;
            case "never": got = x.never(); want = y.never(); break;
            case "was": got = x.was(a[0], a[1]); want = y.was(a[0], a[1]); break;
            case "ask": got = x.ask(a[0]); want = y.ask(a[0]); break;
            case "risk": got = x.risk(a[0], a[1], a[2], a[3]); want = y.risk(a[0], a[1], a[2], a[3]); break;
            case "century": got = x.century(a[0], a[1], a[2]); want = y.century(a[0], a[1], a[2]); break;
            case "sheet": got = x.sheet(a[0], a[1], a[2]); want = y.sheet(a[0], a[1], a[2]); break;
            case "lose": got = x.lose(a[0]); want = y.lose(a[0]); break;
            case "lay": got = x.lay(a[0], a[1], a[2], a[3]); want = y.lay(a[0], a[1], a[2], a[3]); break;
            case "get": got = x.get(a[0], a[1], a[2]); want = y.get(a[0], a[1], a[2]); break;
            case "copy": got = x.copy(a[0], a[1], a[2], a[3], a[4]); want = y.copy(a[0], a[1], a[2], a[3], a[4]); break;
            case "write": got = x.write(a[0], a[1]); want = y.write(a[0], a[1]); break;
            case "count": got = x.count(a[0]); want = y.count(a[0]); break;
            default: got = x.digest(); want = y.digest(); break;
        }
        if (got != want) {
            wrong++;
            System.out.println(name + java.util.Arrays.toString(a) + " answered " + got + ", the model says " + want);
        }
    }
}
