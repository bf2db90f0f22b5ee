/** What digest() is due to answer, as promise 37 says, by the other calls. */
final class DigestByCalls {
    private static final int NONE = WrackDeeds.NONE;
    private static long h;
    private static void add(long v) { h = 31 * h + v; }

    static long of(WrackDeeds x) {
        h = 17;
        for (int k = 0; k <= 7; k++) add(x.count(k));
        for (int k = 0; k < 3; k++) add(x.fault(k));
        for (int k = 0; k < 20; k++) add(x.tide(k));
        int strands = x.count(0);
        for (int s = 0; s < strands; s++) addStrand(x, s);
        for (int k = 0; k < 8; k++) {
            add(x.route(k));
            add(x.reads(k));
        }
        for (int v : new int[] {x.voids(5), x.voids(19), x.forged(), x.tangled(0), x.tangled(1), x.tour(0), x.tour(1), x.tour(2), x.tour(3)}) add(v);
        for (int v : new int[] {x.hang(0, 0), x.hang(0, 1), x.hang(1, 0), x.hang(1, 1), x.hang(2, 0), x.hang(2, 1)}) add(v);
        for (int v : new int[] {x.never(), x.century(7, 6, 0), x.century(7, 6, 1)}) add(v);
        return h;
    }

    private static void addStrand(WrackDeeds x, int s) {
        for (int k = 0; k <= 8; k++) add(x.strand(s, k));
        for (int hour : new int[] {0, 6, 12, 19}) {
            for (int v : new int[] {x.state(hour, s, 0), x.state(hour, s, 1), x.says(hour, s, 0), x.fill(hour, s, NONE), x.fill(hour, s, 0)}) add(v);
        }
        for (int v : new int[] {x.deed(s, 0), x.deed(s, 1), x.save(s, NONE), x.save(s, 0), x.was(s, 0), x.was(s, 1), x.ask(s)}) add(v);
        add(x.risk(5, s, 15, 0));
        add(x.risk(5, s, 15, 1));
    }
}
