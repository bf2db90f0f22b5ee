import java.util.Random;

/** Holds WrackDeeds against the naive model, call by call, in many runs by a fixed seed. */
public final class ModelTest {
    /** The document promises nothing behind an object's 512th call; the longest step types 71 bytes and wipes. */
    private static final int RUNS = 1000, STEPS = 300, MOST_CALLS = 512 - 72;
    private static Random r;
    private static Both both;

    public static void main(String[] args) {
        for (int run = 0; run < RUNS && Both.unlike() < 20; run++) {
            r = new Random(7919L * run + 1);
            both = new Both();
            int most = run % 25 == 0 ? 8 : 1 + r.nextInt(5);
            setUp(most);
            for (int k = 0; k < STEPS && both.well && both.made < MOST_CALLS; k++) step(most);
        }
        Both.end();
    }

    private static void setUp(int most) {
        both.text(0, strands(most));
        both.text(1, tides());
        both.text(2, route(most));
    }

    private static void step(int most) {
        int dice = r.nextInt(200);
        if (dice == 0) { both.call("wipe", 0); both.text(0, strands(most)); }
        else if (dice == 1) { both.call("wipe", 1); both.text(1, tides()); }
        else if (dice == 2) { both.call("wipe", 2); both.text(2, route(most)); }
        else if (dice < 12) both.call("event", r.nextInt(3), r.nextInt(20), r.nextInt(most), r.nextInt(10));
        else if (dice < 18) sight(most);
        else if (dice == 18) both.call("digest");
        else {
            String name = Both.NAMES[r.nextInt(Both.NAMES.length - 1)];
            // Few of these, or little would stay told.
            if ((name.equals("type") || name.equals("wipe") || name.equals("undo") || name.equals("forget")) && r.nextInt(8) != 0) return;
            int[] a = arguments(name, most);
            if (a.length > 0 && r.nextInt(12) == 0) a[r.nextInt(a.length)] = strange();
            both.call(name, a);
        }
    }

    /** Mostly something that is so, or so it would be hard to see anything come out. */
    private static void sight(int most) {
        int hour = r.nextInt(20), s = r.nextInt(most), state = both.y.state(hour, s, 0);
        if (state < 0 || r.nextInt(6) == 0) state = r.nextInt(5);
        both.call("seen", hour, s, state);
    }

    private static int strange() {
        switch (r.nextInt(5)) {
            case 0: return -1 - r.nextInt(3);
            case 1: return Integer.MIN_VALUE;
            case 2: return Integer.MAX_VALUE;
            case 3: return r.nextInt();
            default: return r.nextInt(80);
        }
    }

    private static int[] arguments(String name, int most) {
        int hour = r.nextInt(20), s = r.nextInt(most + (r.nextInt(10) == 0 ? 2 : 0)), sheet = r.nextInt(4);
        switch (name) {
            case "type": return new int[] {r.nextInt(3), "09wkdabch;".charAt(r.nextInt(10))};
            case "wipe": case "undo": case "fault": return new int[] {r.nextInt(3)};
            case "strand": return new int[] {s, r.nextInt(10)};
            case "tide": case "voids": return new int[] {hour};
            case "route": return new int[] {r.nextInt(9)};
            case "event": return new int[] {r.nextInt(3), hour, r.nextInt(8), r.nextInt(10)};
            case "read": case "lose": return new int[] {sheet};
            case "state": return new int[] {hour, s, r.nextInt(2)};
            case "says": return new int[] {hour, s, r.nextInt(6)};
            case "deed": case "was": return new int[] {s, r.nextInt(2)};
            case "tangled": return new int[] {r.nextInt(2)};
            case "reads": return new int[] {r.nextInt(9)};
            case "tour": return new int[] {r.nextInt(10)};
            case "hang": return new int[] {r.nextInt(3), r.nextInt(2)};
            case "save": return new int[] {s, r.nextInt(3) - 1};
            case "fill": return new int[] {hour, s, r.nextInt(7) - 1};
            case "seen": return new int[] {hour, s, r.nextInt(5)};
            case "ask": return new int[] {s};
            case "risk": return new int[] {r.nextInt(17), s, hour, r.nextInt(2)};
            case "century": return new int[] {r.nextInt(), r.nextInt(9), r.nextInt(2)};
            case "sheet": return new int[] {sheet, r.nextInt(3), r.nextInt(3) == 0 ? r.nextInt(63) - 1 : r.nextInt(10)};
            case "lay": return new int[] {sheet, r.nextInt(3), r.nextInt(10), r.nextInt(3) == 0 ? r.nextInt() : r.nextInt(3)};
            case "get": return new int[] {sheet, r.nextInt(3), r.nextInt(10)};
            case "copy": return new int[] {sheet, r.nextInt(5), r.nextInt(4), r.nextInt(5), r.nextInt(6)};
            case "write": return new int[] {s, sheet};
            case "count": return new int[] {r.nextInt(10)};
            default: return new int[0];
        }
    }

    private static String strands(int most) {
        int n = r.nextInt(6) == 0 ? r.nextInt(most + 1) : most, spread = 1 + r.nextInt(10), least = r.nextInt(11 - spread);
        StringBuilder sb = new StringBuilder();
        for (int s = 0; s < n; s++) {
            if (s > 0) sb.append(';');
            sb.append((char) ('0' + least + r.nextInt(spread))).append("wkd".charAt(r.nextInt(3)));
            int long_ = 1 + r.nextInt(6);
            for (int i = 0; i < long_; i++) {
                // Now and then in twos, or what is forged would never come.
                char c = (char) ('a' + r.nextInt(4));
                sb.append(i % 2 == 1 && n % 2 == 0 ? sb.charAt(sb.length() - 1) : c);
            }
        }
        if (r.nextInt(12) == 0 && sb.length() > 0) sb.setCharAt(r.nextInt(sb.length()), "x;9ad".charAt(r.nextInt(5)));
        return sb.toString();
    }

    private static String tides() {
        StringBuilder sb = new StringBuilder();
        int n = r.nextInt(3) == 0 ? r.nextInt(21) : 20, level = r.nextInt(10);
        for (int h = 0; h < n; h++) {
            level = Math.max(0, Math.min(9, level + r.nextInt(3) - 1));
            sb.append((char) ('0' + level));
        }
        if (r.nextInt(20) == 0 && n > 0) sb.setCharAt(r.nextInt(n), '/');
        return sb.toString();
    }

    private static String route(int most) {
        StringBuilder sb = new StringBuilder();
        int n = r.nextInt(9);
        for (int i = 0; i < n; i++) sb.append((char) ('a' + r.nextInt(r.nextInt(10) == 0 ? 8 : most)));
        if (r.nextInt(20) == 0 && n > 0) sb.setCharAt(r.nextInt(n), 'i');
        return sb.toString();
    }
}
