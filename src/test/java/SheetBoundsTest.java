import java.math.BigInteger;
import java.util.Arrays;
import java.util.function.ToLongFunction;

/** Promises 30 to 37: each sentence that names a boundary case. */
public final class SheetBoundsTest {
    private static final int BAD = Cases.BAD, LEAST = Cases.LEAST, MOST = Cases.MOST;
    private static final int NULL = Cases.NULL, INDEX = Cases.INDEX, CAST = Cases.CAST, STORE = Cases.STORE, SIZE = Cases.SIZE;
    private static final Cases c = new Cases(30, 37);

    public static void main(String[] args) {
        sheetIsRefused();
        sheet();
        lose();
        layIsRefused();
        layLowestBits();
        getIsRefused();
        get();
        copyIsRefused();
        copyBeyond();
        copy();
        writeIsRefused();
        write();
        count();
        countOfFindings();
        digest();
        digestIsAsTold();
        c.end();
    }

    /** Some, but its latest finding is INDEX, so that another one can be told from it. */
    private static WrackDeeds someIndex() {
        WrackDeeds x = Cases.some();
        x.get(0, 0, 60);
        return x;
    }

    private static void finds(String call, ToLongFunction<WrackDeeds> act, int want) {
        c.refused(call, act, want, -10 - want);
        c.refused(call, SheetBoundsTest::someIndex, act, want, -10 - want);
    }

    private static void sheetIsRefused() {
        c.sentence(30, "BAD: no such SHEET");
        c.bad("sheet(-1, 0, 1)", x -> x.sheet(-1, 0, 1));
        c.bad("sheet(4, 0, 1)", x -> x.sheet(4, 0, 1));
        c.bad("sheet(least, 0, 1)", x -> x.sheet(LEAST, 0, 1));
        c.bad("sheet(greatest, 0, 1)", x -> x.sheet(MOST, 0, 1));
        c.sentence(30, "BAD: no such FORM");
        c.bad("sheet(0, -1, 1)", x -> x.sheet(0, -1, 1));
        c.bad("sheet(0, 3, 1)", x -> x.sheet(0, 3, 1));
        c.bad("sheet(0, least, 1)", x -> x.sheet(0, LEAST, 1));
        c.bad("sheet(0, greatest, 1)", x -> x.sheet(0, MOST, 1));
        c.sentence(30, "BAD: above 60");
        c.bad("sheet(0, 0, 61)", x -> x.sheet(0, 0, 61));
        c.bad("sheet(3, 2, 61)", x -> x.sheet(3, 2, 61));
        c.bad("sheet(0, 0, greatest)", x -> x.sheet(0, 0, MOST));
        c.sentence(30, "SIZE: below 0");
        finds("sheet(0, 0, -1)", x -> x.sheet(0, 0, -1), SIZE);
        finds("sheet(1, 2, -1)", x -> x.sheet(1, 2, -1), SIZE);
        finds("sheet(3, 1, -1)", x -> x.sheet(3, 1, -1), SIZE);
        finds("sheet(0, 0, least)", x -> x.sheet(0, 0, LEAST), SIZE);
        c.sentence(30, "BAD ahead of SIZE");
        c.bad("sheet(4, 0, -1)", x -> x.sheet(4, 0, -1));
        c.bad("sheet(-1, 0, -1)", x -> x.sheet(-1, 0, -1));
        c.bad("sheet(0, 3, -1)", x -> x.sheet(0, 3, -1));
        c.bad("sheet(0, -1, -1)", x -> x.sheet(0, -1, -1));
    }

    private static void sheet() {
        c.sentence(30, "n: 0 and 60, of each SHEET and FORM");
        for (int s = 0; s < 4; s++) {
            for (int form = 0; form < 3; form++) {
                WrackDeeds x = new WrackDeeds();
                c.due("sheet(" + s + ", " + form + ", 0)", x.sheet(s, form, 0), 0);
                c.due("it has no first", x.lay(s, form, 0, 1), INDEX);
                c.due("sheet(" + s + ", " + form + ", 60)", x.sheet(s, form, 60), 60);
                c.due("it has a sixtieth", x.lay(s, form, 59, 1), 1);
                c.due("it has no more", x.lay(s, form, 60, 1), INDEX);
                c.due("lose", x.lose(s), 60);
            }
        }
        c.sentence(30, "0 at first: all items of a new row, whatever was there");
        for (int form = 0; form < 3; form++) {
            WrackDeeds x = new WrackDeeds();
            x.sheet(0, form, 60);
            for (int i = 0; i < 60; i++) c.due("get", x.get(0, form, i), 0);
            x.lay(0, form, 0, 7);
            x.lay(0, form, 59, 7);
            x.sheet(0, form, 60);
            c.due("the first", x.get(0, form, 0), 0);
            c.due("the last", x.get(0, form, 59), 0);
        }
        c.sentence(30, "a new row: smaller, then larger");
        WrackDeeds x = new WrackDeeds();
        Cases.layAll(x, 0, 2, 1, 2, 3, 4);
        c.due("smaller", x.sheet(0, 2, 2), 2);
        c.due("no third", x.get(0, 2, 2), LEAST);
        c.due("larger", x.sheet(0, 2, 4), 4);
        for (int i = 0; i < 4; i++) c.due("get(0, 2, " + i + ")", x.get(0, 2, i), 0);
        c.sentence(30, "a new row of another FORM");
        x.sheet(0, 0, 4);
        c.due("as it was", x.lay(0, 2, 0, 1), CAST);
        c.due("as it is", x.lay(0, 0, 0, 1), 1);
        c.sentence(30, "a new row where it is LOST; the others stay");
        x.lose(0);
        c.due("sheet(0, 1, 1)", x.sheet(0, 1, 1), 1);
        c.due("its item", x.get(0, 1, 0), 0);
        c.due("another", x.lose(1), NULL);
    }

    private static void lose() {
        c.sentence(31, "how many items it had: 0, 60");
        WrackDeeds x = new WrackDeeds();
        x.sheet(0, 0, 0);
        x.sheet(3, 2, 60);
        c.due("lose(0)", x.lose(0), 0);
        c.due("lose(3)", x.lose(3), 60);
        c.sentence(31, "NULL: it is LOST already");
        c.due("lose(0) again", x.lose(0), NULL);
        finds("lose(3)", y -> y.lose(3), NULL);
        c.refused("lose(0) of a new object", WrackDeeds::new, y -> y.lose(0), NULL, 1);
        c.sentence(31, "BAD: no such SHEET");
        c.bad("lose(-1)", y -> y.lose(-1));
        c.bad("lose(4)", y -> y.lose(4));
        c.bad("lose(least)", y -> y.lose(LEAST));
        c.bad("lose(greatest)", y -> y.lose(MOST));
        c.sentence(31, "it is LOST: that one alone");
        WrackDeeds y = Cases.some();
        c.due("lose(1)", y.lose(1), 4);
        c.due("get(1, 1, 0)", y.get(1, 1, 0), LEAST);
        c.due("count(8)", y.count(8), 1);
        c.due("get(0, 0, 0)", y.get(0, 0, 0), 1);
        c.due("get(2, 2, 0)", y.get(2, 2, 0), 80000);
    }

    private static void layIsRefused() {
        c.sentence(32, "BAD: no such SHEET");
        c.bad("lay(-1, 0, 0, 1)", x -> x.lay(-1, 0, 0, 1));
        c.bad("lay(4, 0, 0, 1)", x -> x.lay(4, 0, 0, 1));
        c.bad("lay(least, 0, 0, 1)", x -> x.lay(LEAST, 0, 0, 1));
        c.bad("lay(greatest, 0, 0, 1)", x -> x.lay(MOST, 0, 0, 1));
        c.sentence(32, "BAD: no such FORM");
        c.bad("lay(0, -1, 0, 1)", x -> x.lay(0, -1, 0, 1));
        c.bad("lay(0, 3, 0, 1)", x -> x.lay(0, 3, 0, 1));
        c.bad("lay(0, least, 0, 1)", x -> x.lay(0, LEAST, 0, 1));
        c.bad("lay(0, greatest, 0, 1)", x -> x.lay(0, MOST, 0, 1));
        c.sentence(32, "NULL: the SHEET is LOST");
        for (int f = 0; f < 3; f++) {
            int form = f;
            finds("lay(3, " + form + ", 0, 1)", x -> x.lay(3, form, 0, 1), NULL);
        }
        c.sentence(32, "CAST: it has another FORM");
        for (int f = 0; f < 9; f++) {
            int s = f / 3, form = f % 3;
            if (s != form) finds("lay(" + s + ", " + form + ", 0, 1)", x -> x.lay(s, form, 0, 1), CAST);
        }
        c.sentence(32, "INDEX: there is no such item");
        finds("lay(0, 0, -1, 9)", x -> x.lay(0, 0, -1, 9), INDEX);
        finds("lay(0, 0, 3, 9)", x -> x.lay(0, 0, 3, 9), INDEX);
        finds("lay(1, 1, 4, 9)", x -> x.lay(1, 1, 4, 9), INDEX);
        finds("lay(2, 2, 2, 9)", x -> x.lay(2, 2, 2, 9), INDEX);
        finds("lay(2, 2, 60, 9)", x -> x.lay(2, 2, 60, 9), INDEX);
        finds("lay(2, 2, least, 9)", x -> x.lay(2, 2, LEAST, 9), INDEX);
        finds("lay(2, 2, greatest, 9)", x -> x.lay(2, 2, MOST, 9), INDEX);
        c.sentence(32, "BAD ahead of NULL, of CAST, of INDEX");
        c.bad("lay(3, 3, 0, 1)", x -> x.lay(3, 3, 0, 1));
        c.bad("lay(0, 3, -1, 1)", x -> x.lay(0, 3, -1, 1));
        c.sentence(32, "NULL ahead of CAST, of INDEX");
        finds("lay(3, 2, -1, 1)", x -> x.lay(3, 2, -1, 1), NULL);
        c.sentence(32, "NULL, where it was of that FORM, of another one");
        WrackDeeds lost = Cases.some();
        lost.lose(1);
        c.due("lay(1, 1, 0, 1)", lost.lay(1, 1, 0, 1), NULL);
        c.due("lay(1, 2, 9, 1)", lost.lay(1, 2, 9, 1), NULL);
        c.sentence(32, "CAST ahead of INDEX");
        finds("lay(0, 1, -1, 1)", x -> x.lay(0, 1, -1, 1), CAST);
        finds("lay(0, 2, 60, 1)", x -> x.lay(0, 2, 60, 1), CAST);
    }

    private static void layOf(int form, int v, int want) {
        WrackDeeds x = new WrackDeeds();
        x.sheet(0, form, 3);
        c.due("lay(0, " + form + ", 1, " + v + ")", x.lay(0, form, 1, v), 1);
        c.due("then get(0, " + form + ", 1)", x.get(0, form, 1), want);
        c.due("the one ahead", x.get(0, form, 0), 0);
        c.due("the one behind", x.get(0, form, 2), 0);
    }

    private static void layLowestBits() {
        c.sentence(32, "the lowest bits that it has: a byte");
        int[] bytes = {0, 0, 1, 1, -1, -1, 127, 127, 128, -128, -128, -128, -129, 127, 255, -1, 256, 0, 0x12345678, 0x78, LEAST, 0, MOST, -1};
        for (int k = 0; k < bytes.length; k += 2) layOf(0, bytes[k], bytes[k + 1]);
        c.sentence(32, "the lowest bits that it has: a short");
        int[] shorts = {0, 0, -1, -1, 255, 255, 32767, 32767, 32768, -32768, -32768, -32768, -32769, 32767, 65535, -1, 65536, 0,
            0x1234f678, -2440, LEAST, 0, MOST, -1};
        for (int k = 0; k < shorts.length; k += 2) layOf(1, shorts[k], shorts[k + 1]);
        c.sentence(32, "the lowest bits that it has: an int has all");
        for (int v : new int[] {0, -1, 32768, 65536, LEAST, LEAST + 1, MOST}) layOf(2, v, v);
        c.sentence(32, "item 0, item 59");
        WrackDeeds x = new WrackDeeds();
        x.sheet(2, 1, 60);
        c.due("lay(2, 1, 0, 5)", x.lay(2, 1, 0, 5), 1);
        c.due("lay(2, 1, 59, 6)", x.lay(2, 1, 59, 6), 1);
        c.due("get(2, 1, 0)", x.get(2, 1, 0), 5);
        c.due("get(2, 1, 59)", x.get(2, 1, 59), 6);
    }

    private static void getIsBad(String call, ToLongFunction<WrackDeeds> act) {
        c.refused(call, act, LEAST, 0);
    }

    private static void getFinds(String call, ToLongFunction<WrackDeeds> act, int finding) {
        c.refused(call, act, LEAST, finding);
        c.refused(call, SheetBoundsTest::someIndex, act, LEAST, finding);
    }

    private static void getIsRefused() {
        c.sentence(33, "BAD: the least int; no such SHEET");
        getIsBad("get(-1, 0, 0)", x -> x.get(-1, 0, 0));
        getIsBad("get(4, 0, 0)", x -> x.get(4, 0, 0));
        getIsBad("get(least, 0, 0)", x -> x.get(LEAST, 0, 0));
        getIsBad("get(greatest, 0, 0)", x -> x.get(MOST, 0, 0));
        c.sentence(33, "BAD: the least int; no such FORM");
        getIsBad("get(0, -1, 0)", x -> x.get(0, -1, 0));
        getIsBad("get(0, 3, 0)", x -> x.get(0, 3, 0));
        getIsBad("get(0, least, 0)", x -> x.get(0, LEAST, 0));
        getIsBad("get(0, greatest, 0)", x -> x.get(0, MOST, 0));
        c.sentence(33, "so is NULL (count() 8 tells)");
        for (int f = 0; f < 3; f++) {
            int form = f;
            getFinds("get(3, " + form + ", 0)", x -> x.get(3, form, 0), 1);
        }
        c.sentence(33, "so is CAST (count() 8 tells)");
        for (int f = 0; f < 9; f++) {
            int s = f / 3, form = f % 3;
            if (s != form) getFinds("get(" + s + ", " + form + ", 0)", x -> x.get(s, form, 0), 3);
        }
        c.sentence(33, "so is INDEX (count() 8 tells)");
        getFinds("get(0, 0, -1)", x -> x.get(0, 0, -1), 2);
        getFinds("get(0, 0, 3)", x -> x.get(0, 0, 3), 2);
        getFinds("get(1, 1, 4)", x -> x.get(1, 1, 4), 2);
        getFinds("get(2, 2, 2)", x -> x.get(2, 2, 2), 2);
        getFinds("get(2, 2, 60)", x -> x.get(2, 2, 60), 2);
        getFinds("get(2, 2, least)", x -> x.get(2, 2, LEAST), 2);
        getFinds("get(2, 2, greatest)", x -> x.get(2, 2, MOST), 2);
        c.sentence(33, "BAD ahead of NULL, NULL ahead of CAST, CAST ahead of INDEX");
        getIsBad("get(3, 3, 0)", x -> x.get(3, 3, 0));
        getIsBad("get(0, 3, -1)", x -> x.get(0, 3, -1));
        getFinds("get(3, 2, -1)", x -> x.get(3, 2, -1), 1);
        getFinds("get(0, 1, -1)", x -> x.get(0, 1, -1), 3);
        getFinds("get(0, 1, 60)", x -> x.get(0, 1, 60), 3);
    }

    private static void get() {
        c.sentence(33, "an item that is the least int itself is no FINDING");
        WrackDeeds x = new WrackDeeds();
        Cases.layAll(x, 0, 2, LEAST);
        c.due("get(0, 2, 0)", x.get(0, 2, 0), LEAST);
        c.due("count(8)", x.count(8), 0);
        c.sentence(33, "of a SHEET without items none");
        WrackDeeds y = new WrackDeeds();
        y.sheet(0, 0, 0);
        c.due("get(0, 0, 0)", y.get(0, 0, 0), LEAST);
        c.due("count(8)", y.count(8), 2);
        c.sentence(33, "the first and the last of 60");
        WrackDeeds z = new WrackDeeds();
        z.sheet(3, 0, 60);
        z.lay(3, 0, 0, -3);
        z.lay(3, 0, 59, 4);
        c.due("get(3, 0, 0)", z.get(3, 0, 0), -3);
        c.due("get(3, 0, 59)", z.get(3, 0, 59), 4);
        c.due("count(8)", z.count(8), 0);
    }

    private static void copyIsRefused() {
        c.sentence(34, "BAD: the SHEETS, s");
        c.bad("copy(-1, 0, 0, 0, 1)", x -> x.copy(-1, 0, 0, 0, 1));
        c.bad("copy(4, 0, 0, 0, 1)", x -> x.copy(4, 0, 0, 0, 1));
        c.bad("copy(least, 0, 0, 0, 1)", x -> x.copy(LEAST, 0, 0, 0, 1));
        c.bad("copy(greatest, 0, 0, 0, 1)", x -> x.copy(MOST, 0, 0, 0, 1));
        c.sentence(34, "BAD: the SHEETS, t");
        c.bad("copy(0, 0, -1, 0, 1)", x -> x.copy(0, 0, -1, 0, 1));
        c.bad("copy(0, 0, 4, 0, 1)", x -> x.copy(0, 0, 4, 0, 1));
        c.bad("copy(0, 0, least, 0, 1)", x -> x.copy(0, 0, LEAST, 0, 1));
        c.bad("copy(0, 0, greatest, 0, 1)", x -> x.copy(0, 0, MOST, 0, 1));
        c.sentence(34, "NULL: s");
        finds("copy(3, 0, 0, 0, 1)", x -> x.copy(3, 0, 0, 0, 1), NULL);
        c.sentence(34, "NULL: t");
        finds("copy(0, 0, 3, 0, 1)", x -> x.copy(0, 0, 3, 0, 1), NULL);
        c.sentence(34, "NULL: both, also one and the same, also of no items");
        finds("copy(3, 0, 3, 0, 0)", x -> x.copy(3, 0, 3, 0, 0), NULL);
        c.sentence(34, "STORE: unlike FORMS, also of no items");
        for (int k = 0; k < 9; k++) {
            int s = k / 3, t = k % 3;
            if (s == t) continue;
            finds("copy(" + s + ", 0, " + t + ", 0, 1)", x -> x.copy(s, 0, t, 0, 1), STORE);
            finds("copy(" + s + ", 0, " + t + ", 0, 0)", x -> x.copy(s, 0, t, 0, 0), STORE);
        }
        c.sentence(34, "BAD ahead of NULL");
        c.bad("copy(3, 0, 4, 0, 1)", x -> x.copy(3, 0, 4, 0, 1));
        c.bad("copy(-1, 0, 3, 0, 1)", x -> x.copy(-1, 0, 3, 0, 1));
        c.sentence(34, "NULL ahead of STORE, of INDEX");
        finds("copy(1, 0, 3, 0, -1)", x -> x.copy(1, 0, 3, 0, -1), NULL);
        finds("copy(3, -1, 1, 0, 1)", x -> x.copy(3, -1, 1, 0, 1), NULL);
        c.sentence(34, "STORE ahead of INDEX");
        finds("copy(0, -1, 1, 0, 1)", x -> x.copy(0, -1, 1, 0, 1), STORE);
        finds("copy(0, 0, 1, 9, 1)", x -> x.copy(0, 0, 1, 9, 1), STORE);
        finds("copy(0, 0, 1, 0, -1)", x -> x.copy(0, 0, 1, 0, -1), STORE);
    }

    /** Sheet 0 has three bytes, sheet 1 five. */
    private static WrackDeeds pair() {
        WrackDeeds x = new WrackDeeds();
        Cases.layAll(x, 0, 0, 1, 2, 3);
        Cases.layAll(x, 1, 0, 11, 12, 13, 14, 15);
        x.sheet(3, 0, -1);
        return x;
    }

    private static void beyond(int s, int i, int t, int j, int n) {
        c.refused("copy(" + s + ", " + i + ", " + t + ", " + j + ", " + n + ")", SheetBoundsTest::pair, x -> x.copy(s, i, t, j, n), INDEX, 2);
    }

    private static void copyBeyond() {
        c.sentence(34, "INDEX: i below 0");
        beyond(0, -1, 1, 0, 1);
        beyond(0, -1, 1, 0, 0);
        beyond(0, LEAST, 1, 0, 1);
        c.sentence(34, "INDEX: j below 0");
        beyond(0, 0, 1, -1, 1);
        beyond(0, 0, 1, -1, 0);
        beyond(0, 0, 1, LEAST, 1);
        c.sentence(34, "INDEX: n below 0");
        beyond(0, 0, 1, 0, -1);
        beyond(0, 2, 1, 2, -1);
        beyond(0, 0, 1, 0, LEAST);
        c.sentence(34, "INDEX: not so many in s");
        beyond(0, 0, 1, 0, 4);
        beyond(0, 1, 1, 0, 3);
        beyond(0, 3, 1, 0, 1);
        beyond(0, 4, 1, 0, 0);
        beyond(0, MOST, 1, 0, 0);
        c.sentence(34, "INDEX: not so many in t");
        beyond(1, 0, 0, 0, 4);
        beyond(1, 0, 0, 1, 3);
        beyond(1, 0, 0, 3, 1);
        beyond(1, 0, 0, 4, 0);
        beyond(1, 0, 0, MOST, 0);
        c.sentence(34, "INDEX: not so many, where i and n together wrap around");
        beyond(0, MOST, 1, 0, 1);
        beyond(0, 1, 1, 0, MOST);
        beyond(0, MOST, 1, 0, MOST);
        beyond(0, 0, 1, MOST, 1);
        beyond(0, 0, 1, 1, MOST);
        beyond(0, 0, 1, 0, MOST);
        c.sentence(34, "INDEX: nothing comes, not even what would have room");
        WrackDeeds x = pair();
        c.due("copy(1, 0, 0, 2, 2)", x.copy(1, 0, 0, 2, 2), INDEX);
        c.due("get(0, 0, 2)", x.get(0, 0, 2), 3);
    }

    private static void itemsOf(WrackDeeds x, int s, int form, int... items) {
        for (int i = 0; i < items.length; i++) c.due("get(" + s + ", " + form + ", " + i + ")", x.get(s, form, i), items[i]);
    }

    private static void copy() {
        c.sentence(34, "n items: all of them");
        WrackDeeds all = pair();
        c.due("copy(0, 0, 1, 2, 3)", all.copy(0, 0, 1, 2, 3), 1);
        itemsOf(all, 1, 0, 11, 12, 1, 2, 3);
        itemsOf(all, 0, 0, 1, 2, 3);
        c.sentence(34, "n items: the last one, to the last place");
        WrackDeeds last = pair();
        c.due("copy(1, 4, 0, 2, 1)", last.copy(1, 4, 0, 2, 1), 1);
        itemsOf(last, 0, 0, 1, 2, 15);
        c.sentence(34, "n items: none, at the ends too");
        WrackDeeds none = pair();
        c.due("copy(0, 0, 1, 0, 0)", none.copy(0, 0, 1, 0, 0), 1);
        c.due("copy(0, 3, 1, 5, 0)", none.copy(0, 3, 1, 5, 0), 1);
        itemsOf(none, 1, 0, 11, 12, 13, 14, 15);
        none.sheet(2, 0, 0);
        c.due("copy(2, 0, 2, 0, 0)", none.copy(2, 0, 2, 0, 0), 1);
        c.due("copy(2, 0, 1, 5, 0)", none.copy(2, 0, 1, 5, 0), 1);
        c.sentence(34, "perhaps s, as they were: forward, backward, on the spot");
        WrackDeeds on = pair();
        c.due("copy(1, 0, 1, 1, 4)", on.copy(1, 0, 1, 1, 4), 1);
        itemsOf(on, 1, 0, 11, 11, 12, 13, 14);
        WrackDeeds back = pair();
        c.due("copy(1, 1, 1, 0, 4)", back.copy(1, 1, 1, 0, 4), 1);
        itemsOf(back, 1, 0, 12, 13, 14, 15, 15);
        WrackDeeds spot = pair();
        c.due("copy(1, 0, 1, 0, 5)", spot.copy(1, 0, 1, 0, 5), 1);
        itemsOf(spot, 1, 0, 11, 12, 13, 14, 15);
        c.sentence(34, "60 items");
        WrackDeeds full = new WrackDeeds();
        full.sheet(0, 1, 60);
        full.sheet(1, 1, 60);
        full.lay(0, 1, 59, 600);
        c.due("copy(0, 0, 1, 0, 60)", full.copy(0, 0, 1, 0, 60), 1);
        c.due("get(1, 1, 59)", full.get(1, 1, 59), 600);
        c.due("copy(0, 0, 1, 0, 61)", full.copy(0, 0, 1, 0, 61), INDEX);
        c.sentence(34, "what came stays when the other changes");
        full.lay(0, 1, 59, 5);
        c.due("get(1, 1, 59)", full.get(1, 1, 59), 600);
    }

    private static void writeIsRefused() {
        c.sentence(35, "BAD: no such STRAND");
        c.bad("write(-1, 0)", x -> x.write(-1, 0));
        c.bad("write(3, 0)", x -> x.write(3, 0));
        c.bad("write(8, 0)", x -> x.write(8, 0));
        c.bad("write(least, 0)", x -> x.write(LEAST, 0));
        c.bad("write(greatest, 0)", x -> x.write(MOST, 0));
        c.sentence(35, "BAD: no such SHEET");
        c.bad("write(0, -1)", x -> x.write(0, -1));
        c.bad("write(0, 4)", x -> x.write(0, 4));
        c.bad("write(0, least)", x -> x.write(0, LEAST));
        c.bad("write(0, greatest)", x -> x.write(0, MOST));
        c.sentence(35, "NULL: the SHEET is LOST");
        finds("write(0, 3)", x -> x.write(0, 3), NULL);
        c.sentence(35, "BAD ahead of NULL");
        c.bad("write(3, 3)", x -> x.write(3, 3));
        c.refused("write(0, 0) of none", WrackDeeds::new, x -> x.write(0, 0), BAD, 0);
    }

    private static void write() {
        int[] states = {0, 0, 0, 4, 4, 4, 2, 2, 2, 2, 0, 0, 0, 1, 1, 3, 3, 3, 3, 3};
        for (int n : new int[] {0, 1, 19, 20, 21, 60}) {
            c.sentence(35, "as many as there are items, 20 at most: of " + n);
            for (int form = 0; form < 3; form++) {
                WrackDeeds x = Cases.made("5wb;3da", "01234567890123456789", "");
                x.event(1, 15, 1, 0);
                x.sheet(2, form, n);
                for (int i = 0; i < n; i++) x.lay(2, form, i, 77);
                c.due("write(1, 2)", x.write(1, 2), Math.min(n, 20));
                for (int i = 0; i < n; i++) c.due("item " + i, x.get(2, form, i), i < 20 ? states[i] : 77);
                c.due("lose(2)", x.lose(2), n);
            }
        }
        c.sentence(35, "of the eighth STRAND");
        WrackDeeds x = Cases.made("9wa;9wa;9wa;9wa;9wa;9wa;9wa;5wa", "", "");
        x.sheet(0, 0, 1);
        c.due("write(7, 0)", x.write(7, 0), 1);
        c.due("get(0, 0, 0)", x.get(0, 0, 0), 1);
        c.due("write(8, 0)", x.write(8, 0), BAD);
    }

    private static void count() {
        c.sentence(36, "BAD: what below 0, above 8");
        c.bad("count(-1)", x -> x.count(-1));
        c.bad("count(9)", x -> x.count(9));
        c.bad("count(least)", x -> x.count(LEAST));
        c.bad("count(greatest)", x -> x.count(MOST));
        c.sentence(36, "all of a new object: 0");
        for (int what = 0; what <= 8; what++) c.due("count(" + what + ")", new WrackDeeds().count(what), 0);
        c.sentence(36, "all where there is no more room");
        WrackDeeds x = Cases.made(Cases.LONGEST, Cases.times("5", 20), "ffffffff");
        for (int k = 0; k < 8; k++) x.event(0, 0, 0, 0);
        for (int k = 0; k < 8; k++) x.seen(0, 0, 0);
        int[] want = {8, 8, 71, 20, 8, 8, 8, 8, 0};
        for (int what = 0; what <= 8; what++) c.due("count(" + what + ")", x.count(what), want[what]);
        c.sentence(36, "with FAULTS: no STRANDS, no ROUTE, none READ, but bytes");
        WrackDeeds y = Cases.made("5wa;4w", "12x", "abi");
        int[] bytes = {0, 0, 6, 3, 3, 0, 0, 0, 0};
        for (int what = 0; what <= 8; what++) c.due("count(" + what + ")", y.count(what), bytes[what]);
        c.sentence(36, "6 READ: 0, and as reads(8)");
        WrackDeeds z = Cases.made("9wa", "", "a");
        c.due("count(1)", z.count(1), 1);
        c.due("count(6)", z.count(6), 0);
        z.type(1, '9');
        c.due("count(6) by a tide", z.count(6), 1);
    }

    private static void countOfFindings() {
        c.sentence(36, "8 the number of the latest FINDING: each of them");
        WrackDeeds x = Cases.some();
        int[][] row = {{x.lose(3), NULL}, {x.count(8), 1}, {x.lay(0, 0, 9, 0), INDEX}, {x.count(8), 2}, {x.lay(0, 1, 0, 0), CAST},
            {x.count(8), 3}, {x.copy(0, 0, 1, 0, 0), STORE}, {x.count(8), 4}, {x.sheet(0, 0, -1), SIZE}, {x.count(8), 5}};
        for (int[] gotAndWant : row) c.due("finding or count(8)", gotAndWant[0], gotAndWant[1]);
        c.sentence(36, "8: BAD, NOT, FULL are no FINDINGS");
        x.lose(9);
        x.undo(9);
        x.wipe(1);
        x.undo(1);
        for (int k = 0; k < 9; k++) x.event(0, 0, 0, 0);
        c.due("count(8)", x.count(8), 5);
        c.sentence(36, "8: a call that is well leaves it");
        c.due("lay(0, 0, 0, 1)", x.lay(0, 0, 0, 1), 1);
        c.due("get(0, 0, 0)", x.get(0, 0, 0), 1);
        c.due("lose(0)", x.lose(0), 3);
        c.due("read(1)", x.read(1), 0);
        c.due("count(8)", x.count(8), 5);
    }

    private static void digest() {
        c.sentence(37, "of nothing: counts 0, no FAULTS, 5 in each HOUR, no STRANDS; as longs that wrap");
        // 31 to the power of 65 is far beyond a long: the lowest 64 bits of what never wraps are due.
        int[] all = new int[65];
        Arrays.fill(all, 8, 11, -1);
        Arrays.fill(all, 11, 31, 5);
        Arrays.fill(all, 31, 47, -1);
        System.arraycopy(new int[] {0, 0, 0, 0, 0, 0, -1, -1, -1, 3, 20, 1, 20, 3, 10, 0, 0, 0}, 0, all, 47, 18);
        BigInteger exact = BigInteger.valueOf(17);
        for (int v : all) exact = exact.multiply(BigInteger.valueOf(31)).add(BigInteger.valueOf(v));
        long empty = exact.longValue();
        c.due("digest()", new WrackDeeds().digest(), empty);
        c.sentence(37, "a FINDING, count() 8, and SHEETS are not in it");
        WrackDeeds x = new WrackDeeds();
        x.lose(0);
        x.sheet(0, 0, 5);
        x.lay(0, 0, 0, 9);
        c.due("digest()", x.digest(), empty);
        c.sentence(37, "it changes nothing");
        WrackDeeds y = Cases.full();
        long once = y.digest();
        c.due("digest() again", y.digest(), once);
        c.refused("digest()", Cases::full, z -> z.digest() == once ? 0 : 1, 0, 0);
    }

    private static void digestIsAsTold() {
        c.sentence(37, "of some");
        WrackDeeds some = Cases.some();
        c.due("digest()", some.digest(), DigestByCalls.of(some));
        c.sentence(37, "of EVENTS and SEEN, as many as there may be");
        WrackDeeds full = Cases.full();
        c.due("digest()", full.digest(), DigestByCalls.of(full));
        c.sentence(37, "of eight STRANDS of six BLADDERS, 20 TIDES, a ROUTE of eight");
        WrackDeeds longest = Cases.made(Cases.LONGEST, "01234567899876543210", "abcdefgh");
        longest.event(1, 13, 2, 0);
        c.due("digest()", longest.digest(), DigestByCalls.of(longest));
        // By seed 7 the sixth event lifts strand 1 to where it can be read, the seventh is a heron on it.
        c.sentence(37, "voids(5), risk(5, it, 15), century(7, 6): not of the HOUR or number ahead or behind");
        WrackDeeds just = Cases.made("5wab;3wcc", "999999" + Cases.times("6", 14), "abb");
        int[][] herons = {{5, 1}, {6, 0}, {15, 0}, {16, 0}};
        for (int[] hourAndStrand : herons) just.event(1, hourAndStrand[0], hourAndStrand[1], 0);
        c.due("digest()", just.digest(), DigestByCalls.of(just));
        c.due("century(7, 6, 1) is not century(7, 5, 1)", just.century(7, 6, 1) == just.century(7, 5, 1) ? 1 : 0, 0);
        c.due("century(7, 6, 1) is not century(7, 7, 1)", just.century(7, 6, 1) == just.century(7, 7, 1) ? 1 : 0, 0);
        c.sentence(37, "with FAULTS");
        WrackDeeds faults = Cases.made("5wa;4w", "12x", "abi");
        faults.event(1, 0, 0, 0);
        faults.seen(0, 0, 3);
        c.due("digest()", faults.digest(), DigestByCalls.of(faults));
    }
}
