/**
 * Each call with each row of arguments at the edges of what the document tells: just in, just out, far out, in
 * objects that are new, that have some of everything, that are full, or whose texts have faults. All answers are
 * held against the naive model, so that none throws and the first refusal that fits is the one.
 */
public final class EdgeSweepTest {
    private static final int LEAST = Integer.MIN_VALUE, MOST = Integer.MAX_VALUE;
    private static final int MOST_CALLS = 400;
    private static Both both;

    public static void main(String[] args) {
        for (int kind = 0; kind < 5; kind++) {
            for (String name : Both.NAMES) {
                both = made(kind);
                sweep(kind, name, ends(name), new int[ends(name).length / 2], 0);
            }
        }
        Both.end();
    }

    /** The least and the last of each argument. */
    private static int[] ends(String name) {
        switch (name) {
            case "type": return new int[] {0, 2, 0, 255};
            case "wipe": case "undo": case "fault": return new int[] {0, 2};
            case "strand": return new int[] {0, 2, 0, 8};
            case "tide": case "voids": return new int[] {0, 19};
            case "route": return new int[] {0, 7};
            case "event": return new int[] {0, 2, 0, 19, 0, 7, 0, 9};
            case "read": case "lose": return new int[] {0, 3};
            case "state": return new int[] {0, 19, 0, 2, 0, 1};
            case "says": return new int[] {0, 19, 0, 2, 0, 5};
            case "deed": case "was": return new int[] {0, 2, 0, 1};
            case "tangled": return new int[] {0, 1};
            case "reads": return new int[] {0, 8};
            case "tour": return new int[] {0, 9};
            case "hang": return new int[] {0, 2, 0, 1};
            case "save": return new int[] {0, 2, -1, 1};
            case "fill": return new int[] {0, 19, 0, 2, -1, 5};
            case "seen": return new int[] {0, 19, 0, 7, 0, 4};
            case "ask": return new int[] {0, 2};
            case "risk": return new int[] {0, 16, 0, 2, 0, 19, 0, 1};
            case "century": return new int[] {-1, 1, 0, 8, 0, 1};
            case "sheet": return new int[] {0, 3, 0, 2, 0, 60};
            case "lay": return new int[] {0, 3, 0, 2, 0, 2, -128, 127};
            case "get": return new int[] {0, 3, 0, 2, 0, 2};
            case "copy": return new int[] {0, 3, 0, 2, 0, 3, 0, 2, 0, 3};
            case "write": return new int[] {0, 2, 0, 3};
            case "count": return new int[] {0, 8};
            default: return new int[0];
        }
    }

    private static Both made(int kind) {
        Both b = new Both();
        if (kind == 0) return b;
        if (kind == 4) {
            b.text(0, "0wabcdab;1kbb;2dcdabcd;3wd;4wabcdab;5dbcdabc;6kcc;7wdabcda");
            b.text(1, "01234567899876543210");
            b.text(2, "abcdefgh");
        } else {
            b.text(0, kind == 3 ? "5wab;3kbc;4d" : "5wab;3kbc;4ddda");
            b.text(1, kind == 3 ? "55x" : "5566");
            b.text(2, kind == 3 ? "abi" : "abca");
        }
        for (int k = 0; k < (kind == 2 ? 8 : 3); k++) b.call("event", k % 3, 3 * k % 20, k % 3, (k + 5) % 10);
        for (int k = 0; k < (kind == 2 ? 8 : 2); k++) b.call("seen", k, 0, 1);
        for (int s = 0; s < 3; s++) {
            b.call("sheet", s, s, 3);
            for (int i = 0; i < 3; i++) b.call("lay", s, s, i, i - 1);
        }
        return b;
    }

    private static void sweep(int kind, String name, int[] ends, int[] row, int depth) {
        if (depth == row.length) {
            ask(kind, name, row);
            return;
        }
        int least = ends[2 * depth], last = ends[2 * depth + 1];
        int[] edges = {LEAST, least - 1, least, least + 1, last - 1, last, last + 1, MOST};
        for (int k = 0; k < edges.length && both.well; k++) {
            if (k > 0 && edges[k] <= edges[k - 1]) continue;
            row[depth] = edges[k];
            sweep(kind, name, ends, row, depth + 1);
        }
    }

    private static void ask(int kind, String name, int[] row) {
        if (both.made > MOST_CALLS) both = made(kind);
        long answer = both.call(name, row.clone());
        both.call("count", 8);
        if (answer > 0 && changes(name)) {
            for (int what = 0; what < 8; what++) both.call("count", what);
            for (int s = 0; s < 3; s++) both.call("get", s, s, 2);
            both = made(kind);
        }
    }

    private static boolean changes(String name) {
        switch (name) {
            case "type": case "wipe": case "undo": case "event": case "back": case "read": case "seen": case "forget":
            case "sheet": case "lose": case "lay": case "copy": case "write": return true;
            default: return false;
        }
    }
}
