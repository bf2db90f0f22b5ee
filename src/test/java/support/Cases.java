import java.util.ArrayList;
import java.util.List;
import java.util.function.Supplier;
import java.util.function.ToLongFunction;

/**
 * What the boundary tests share. Each sentence of the document that names a boundary is a case of its own, begun by
 * sentence(); what is looked at then is reported under its promise and its words.
 */
final class Cases {
    static final int NONE = -1, BAD = -2, NOT = -3, FULL = -4;
    static final int NULL = -11, INDEX = -12, CAST = -13, STORE = -14, SIZE = -15;
    static final int LEAST = Integer.MIN_VALUE, MOST = Integer.MAX_VALUE;
    static final long BAD_LONG = Long.MIN_VALUE + 2;
    /** The document promises nothing about an object behind so many calls: what a case asks of one stays within. */
    static final int CALLS = 512;

    private final int first, last;
    private final int[] casesOf = new int[38];
    private int promise, cases, looked, wrong;
    private boolean empty;
    private String words = "";

    /** A file of cases speaks for the promises first to last, and fails if it has no case for one of them. */
    Cases(int first, int last) {
        this.first = first;
        this.last = last;
    }

    void sentence(int ofPromise, String itsWords) {
        noEmptyCase();
        promise = ofPromise;
        words = itsWords;
        empty = true;
        cases++;
        casesOf[ofPromise]++;
    }

    void due(String call, long got, long want) {
        looked++;
        empty = false;
        if (got != want) {
            wrong++;
            System.out.println("promise " + promise + ", \"" + words + "\": " + call + " answered " + got + ", due is " + want);
        }
    }

    private void noEmptyCase() {
        if (empty) due("a look at anything", 0, 1);
    }

    void end() {
        noEmptyCase();
        for (promise = first; promise <= last; promise++) {
            words = "all of it";
            if (casesOf[promise] == 0) due("cases", 0, 1);
        }
        System.out.println(cases + " cases, " + looked + " answers looked at, " + wrong + " not as due");
        if (wrong != 0) System.exit(1);
    }

    /** A call that is refused answers so, and changes nothing but, with a finding (0: with none), count(8). */
    void refused(String call, Supplier<WrackDeeds> maker, ToLongFunction<WrackDeeds> act, long want, int finding) {
        WrackDeeds asked = maker.get(), spared = maker.get();
        int before = spared.count(8);
        due(call, act.applyAsLong(asked), want);
        due("count(8) behind " + call, asked.count(8), finding == 0 ? before : finding);
        List<Long> one = all(asked), other = all(spared);
        due("how much there is to see behind " + call, one.size(), other.size());
        for (int i = 0; i < one.size() && i < other.size(); i++) {
            if (!one.get(i).equals(other.get(i))) {
                due("what can be seen (" + i + ") behind " + call, one.get(i), other.get(i));
                return;
            }
        }
    }

    void refused(String call, ToLongFunction<WrackDeeds> act, long want, int finding) {
        refused(call, Cases::some, act, want, finding);
    }

    void bad(String call, ToLongFunction<WrackDeeds> act) {
        refused(call, act, BAD, 0);
    }

    /** All that can be seen of an object but count(8); it is used up by this. */
    private static List<Long> all(WrackDeeds x) {
        List<Long> row = new ArrayList<>();
        row.add(x.digest());
        for (int what = 0; what < 8; what++) row.add((long) x.count(what));
        for (int s = 0; s < 4; s++) sheet(x, s, row);
        while (x.back() >= 0) row.add(x.digest());
        row.add((long) x.forget());
        row.add(x.digest());
        for (int t = 0; t < 3; t++) {
            // A byte beyond a fault shows only when those behind it are gone.
            while (x.undo(t) >= 0) row.add((long) x.fault(t) * 1000 + x.strand(0, 2) * 100 + x.tide(0) * 10 + x.route(0));
            row.add(x.digest());
        }
        return row;
    }

    private static void sheet(WrackDeeds x, int s, List<Long> row) {
        for (int form = 0; form < 3; form++) {
            row.add((long) x.get(s, form, 60));
            int found = x.count(8);
            row.add((long) found);
            if (found != 2) continue;
            int size = x.copy(s, 0, s, 0, 60) == 1 ? 60 : 0;
            while (size < 60 && x.copy(s, size, s, size, 1) == 1) size++;
            row.add((long) size);
            for (int i = 0; i < size; i++) row.add((long) x.get(s, form, i));
        }
    }

    static WrackDeeds made(String strands, String tides, String route) {
        WrackDeeds x = new WrackDeeds();
        typeAll(x, 0, strands);
        typeAll(x, 1, tides);
        typeAll(x, 2, route);
        return x;
    }

    static void typeAll(WrackDeeds x, int text, String all) {
        for (int i = 0; i < all.length(); i++) x.type(text, all.charAt(i));
    }

    /** A sheet of a form with these items. */
    static void layAll(WrackDeeds x, int s, int form, int... items) {
        x.sheet(s, form, items.length);
        for (int i = 0; i < items.length; i++) x.lay(s, form, i, items[i]);
    }

    /** An object with something of everything: sheets 0 to 2 are bytes, shorts, ints, 3 is lost; count(8) is 5. */
    static WrackDeeds some() {
        WrackDeeds x = made("5wab;3kbc;4ddda", "5566", "abca");
        x.event(0, 3, 0, 1);
        x.event(1, 12, 1, 0);
        x.event(2, 9, 2, 6);
        x.seen(0, 0, 1);
        x.seen(13, 1, 3);
        layAll(x, 0, 0, 1, -2, 3);
        layAll(x, 1, 1, 400, -500, 600, 700);
        layAll(x, 2, 2, 80000, -90000);
        x.sheet(3, 0, -1);
        return x;
    }

    /** As some(), with no more room for an event or for what was seen. */
    static WrackDeeds full() {
        WrackDeeds x = some();
        for (int k = 3; k < 8; k++) x.event(k % 3, k, k % 3, k);
        for (int k = 2; k < 8; k++) x.seen(0, 0, 1);
        return x;
    }

    static String times(String one, int n) {
        StringBuilder all = new StringBuilder();
        for (int k = 0; k < n; k++) all.append(one);
        return all.toString();
    }

    /** Eight strands of six bladders: all 71 bytes. */
    static final String LONGEST = "0wabcdab;1wbcdabc;2wcdabcd;3wdabcda;4wabcdab;5wbcdabc;6wcdabcd;7wdabcda";
    /** Eight strands of one bladder. */
    static final String EIGHT = "5wa;5wa;5wa;5wa;5wa;5wa;5wa;5wa";
}
