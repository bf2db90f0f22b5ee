/** Promises 9 to 11: each sentence that names a boundary case. */
public final class EventBoundsTest {
    private static final int NONE = Cases.NONE, BAD = Cases.BAD, NOT = Cases.NOT, FULL = Cases.FULL, NULL = Cases.NULL;
    private static final Cases c = new Cases(9, 11);

    public static void main(String[] args) {
        eventIsBad();
        eventIsFull();
        eventsThatDoNothing();
        whenEventsCome();
        back();
        readIsRefused();
        readWhole();
        readAsLongAsEachMayBe();
        readAsMuchAsThereIsRoom();
        c.end();
    }

    private static void eventIsBad() {
        c.sentence(9, "the least of each number");
        c.due("event(0, 0, 0, 0)", new WrackDeeds().event(0, 0, 0, 0), 1);
        c.sentence(9, "the greatest of each number");
        c.due("event(2, 19, 7, 9)", new WrackDeeds().event(2, 19, 7, 9), 1);
        c.sentence(9, "BAD: kind below 0, above 2");
        c.bad("kind -1", x -> x.event(-1, 0, 0, 0));
        c.bad("kind 3", x -> x.event(3, 0, 0, 0));
        c.bad("kind least", x -> x.event(Cases.LEAST, 0, 0, 0));
        c.bad("kind greatest", x -> x.event(Cases.MOST, 0, 0, 0));
        c.sentence(9, "BAD: HOUR below 0, above 19");
        c.bad("hour -1", x -> x.event(0, -1, 0, 0));
        c.bad("hour 20", x -> x.event(0, 20, 0, 0));
        c.bad("hour least", x -> x.event(0, Cases.LEAST, 0, 0));
        c.bad("hour greatest", x -> x.event(0, Cases.MOST, 0, 0));
        c.sentence(9, "BAD: STRAND below 0, above 7");
        c.bad("strand -1", x -> x.event(0, 0, -1, 0));
        c.bad("strand 8", x -> x.event(0, 0, 8, 0));
        c.bad("strand least", x -> x.event(0, 0, Cases.LEAST, 0));
        c.bad("strand greatest", x -> x.event(0, 0, Cases.MOST, 0));
        c.sentence(9, "BAD: number below 0, above 9, of each kind");
        for (int k = 0; k < 3; k++) {
            int kind = k;
            c.bad("number -1", x -> x.event(kind, 0, 0, -1));
            c.bad("number 10", x -> x.event(kind, 0, 0, 10));
        }
        c.bad("number least", x -> x.event(0, 0, 0, Cases.LEAST));
        c.bad("number greatest", x -> x.event(0, 0, 0, Cases.MOST));
    }

    private static void eventIsFull() {
        c.sentence(9, "8 at most: how many");
        WrackDeeds x = new WrackDeeds();
        for (int k = 1; k <= 8; k++) c.due("event " + k, x.event(k % 3, 0, 0, 0), k);
        c.sentence(9, "FULL: a ninth");
        c.due("event", x.event(0, 0, 0, 0), FULL);
        c.due("count(5)", x.count(5), 8);
        c.refused("event", Cases::full, y -> y.event(1, 0, 0, 0), FULL, 0);
        c.sentence(9, "BAD ahead of FULL");
        c.refused("kind 3", Cases::full, y -> y.event(3, 0, 0, 0), BAD, 0);
        c.refused("hour 20", Cases::full, y -> y.event(0, 20, 0, 0), BAD, 0);
        c.refused("strand 8", Cases::full, y -> y.event(0, 0, 8, 0), BAD, 0);
        c.refused("number 10", Cases::full, y -> y.event(0, 0, 0, 10), BAD, 0);
    }

    private static void eventsThatDoNothing() {
        c.sentence(9, "of a STRAND that there is not: nothing");
        WrackDeeds x = Cases.made("5wa", "", "a");
        for (int kind = 0; kind < 3; kind++) c.due("event", x.event(kind, 0, 1, 0), kind + 1);
        c.due("state(0, 0, 0)", x.state(0, 0, 0), 1);
        c.due("state(0, 0, 1)", x.state(0, 0, 1), 5);
        c.due("says(0, 0, 0)", x.says(0, 0, 0), 0);
        c.due("voids(19)", x.voids(19), 0);
        c.due("reads(8)", x.reads(8), 1);
        c.sentence(9, "of a STRAND that comes behind its EVENT: then it is so");
        Cases.typeAll(x, 0, ";5wb");
        c.due("state(0, 1, 0)", x.state(0, 1, 0), 3);
        c.due("state(0, 1, 1)", x.state(0, 1, 1), 0);
        c.due("voids(0)", x.voids(0), 2);
        c.sentence(9, "of a BLADDER that there is not: nothing");
        WrackDeeds y = Cases.made("5wab", "", "");
        for (int number = 2; number <= 9; number++) y.event(0, 0, 0, number);
        c.due("count(5)", y.count(5), 8);
        c.due("says(0, 0, 0)", y.says(0, 0, 0), 0);
        c.due("says(0, 0, 1)", y.says(0, 0, 1), 1);
        c.due("says(0, 0, 2)", y.says(0, 0, 2), NONE);
        c.due("fill(0, 0, NONE)", y.fill(0, 0, NONE), 1);
        c.due("state(0, 0, 1)", y.state(0, 0, 1), 5);
        c.sentence(9, "a POP of the sixth BLADDER; the number of a HERON is nothing");
        WrackDeeds z = Cases.made("5wabcdab", "", "");
        z.event(0, 0, 0, 5);
        c.due("says(0, 0, 5)", z.says(0, 0, 5), 4);
        c.due("says(0, 0, 4)", z.says(0, 0, 4), 0);
        z.event(1, 3, 0, 9);
        c.due("state(3, 0, 0)", z.state(3, 0, 0), 3);
        c.due("state(3, 0, 1)", z.state(3, 0, 1), 5);
    }

    private static void whenEventsCome() {
        c.sentence(9, "they come ahead of their HOUR: of HOUR 0 in all");
        WrackDeeds x = Cases.made("5wa", "", "");
        x.event(2, 0, 0, 4);
        for (int h = 0; h < 20; h++) c.due("state(" + h + ", 0, 1)", x.state(h, 0, 1), 4);
        c.sentence(9, "they come ahead of their HOUR: of HOUR 19 in that alone");
        WrackDeeds y = Cases.made("5wa", "", "");
        y.event(2, 19, 0, 4);
        y.event(0, 19, 0, 0);
        c.due("state(18, 0, 1)", y.state(18, 0, 1), 5);
        c.due("state(19, 0, 1)", y.state(19, 0, 1), 4);
        c.due("says(18, 0, 0)", y.says(18, 0, 0), 0);
        c.due("says(19, 0, 0)", y.says(19, 0, 0), 4);
        c.sentence(9, "as told: of two in one HOUR the later told one is behind");
        WrackDeeds z = Cases.made("5wa", "", "");
        z.event(2, 7, 0, 3);
        z.event(2, 7, 0, 8);
        c.due("state(7, 0, 1)", z.state(7, 0, 1), 8);
        c.sentence(9, "from then on: an EVENT of an earlier HOUR, told later, comes earlier");
        z.event(2, 6, 0, 1);
        c.due("state(6, 0, 1)", z.state(6, 0, 1), 1);
        c.due("state(7, 0, 1)", z.state(7, 0, 1), 8);
        c.sentence(9, "what is EATEN stays so");
        WrackDeeds eaten = Cases.made("5wa", "", "");
        eaten.event(1, 4, 0, 0);
        eaten.event(2, 4, 0, 5);
        eaten.event(2, 9, 0, 4);
        c.due("state(3, 0, 0)", eaten.state(3, 0, 0), 1);
        for (int h = 4; h < 20; h++) c.due("state(" + h + ", 0, 0)", eaten.state(h, 0, 0), 3);
    }

    private static void back() {
        c.sentence(10, "NOT: there is none");
        c.refused("back()", WrackDeeds::new, WrackDeeds::back, NOT, 0);
        c.refused("back() with texts alone", () -> Cases.made("5wa", "7", "a"), WrackDeeds::back, NOT, 0);
        c.sentence(10, "how many are left: of eight, down to none, then NOT");
        WrackDeeds x = new WrackDeeds();
        for (int k = 0; k < 8; k++) x.event(0, 0, 0, 0);
        for (int k = 7; k >= 0; k--) c.due("back()", x.back(), k);
        c.due("back() of none", x.back(), NOT);
        c.due("count(5)", x.count(5), 0);
        c.sentence(10, "where one was undone there is room for one");
        WrackDeeds y = Cases.full();
        c.due("back()", y.back(), 7);
        c.due("event", y.event(0, 0, 0, 0), 8);
        c.due("event again", y.event(0, 0, 0, 0), FULL);
        c.sentence(10, "the last EVENT is undone: the last told, not the latest");
        WrackDeeds z = Cases.made("5wa", "", "");
        z.event(2, 9, 0, 1);
        z.event(2, 3, 0, 2);
        c.due("state(3, 0, 1)", z.state(3, 0, 1), 2);
        z.back();
        c.due("state(3, 0, 1) then", z.state(3, 0, 1), 5);
        c.due("state(9, 0, 1)", z.state(9, 0, 1), 1);
    }

    private static void readIsRefused() {
        c.sentence(11, "BAD: no such SHEET");
        c.bad("read(-1)", x -> x.read(-1));
        c.bad("read(4)", x -> x.read(4));
        c.bad("read(least)", x -> x.read(Cases.LEAST));
        c.bad("read(greatest)", x -> x.read(Cases.MOST));
        c.sentence(11, "NULL: the SHEET is LOST");
        c.refused("read(3)", x -> x.read(3), NULL, 1);
        c.refused("read(0) of a new object", WrackDeeds::new, x -> x.read(0), NULL, 1);
        c.refused("read(3), full", Cases::full, x -> x.read(3), NULL, 1);
    }

    private static WrackDeeds withSheet(int form, int... items) {
        WrackDeeds x = Cases.made("5wabcdab;4wb", "", "");
        Cases.layAll(x, 1, form, items);
        return x;
    }

    private static void reads(String what, int want, int... items) {
        for (int form = 0; form < 3; form++) {
            WrackDeeds x = withSheet(form, items);
            c.due(what + ", form " + form, x.read(1), want);
            c.due("count(5)", x.count(5), want);
            c.due("count(8)", x.count(8), 0);
        }
    }

    private static void readWhole() {
        c.sentence(11, "as many as are whole: of no items none");
        reads("read(1)", 0);
        c.sentence(11, "as many as are whole: three items are none");
        reads("read(1)", 0, 0, 0, 0);
        c.sentence(11, "as many as are whole: four are one");
        reads("read(1)", 1, 0, 0, 0, 0);
        c.sentence(11, "as many as are whole: of seven items one");
        reads("read(1)", 1, 0, 0, 0, 0, 0, 0, 0);
        c.sentence(11, "as many as are whole: of eight items two");
        reads("read(1)", 2, 0, 0, 0, 0, 2, 19, 7, 9);
        c.sentence(11, "its items, four for each: kind, HOUR, STRAND, number; the SHEET stays");
        WrackDeeds x = withSheet(0, 2, 3, 1, 9, 1, 6, 0, 7);
        c.due("read(1)", x.read(1), 2);
        c.due("state(2, 1, 1)", x.state(2, 1, 1), 4);
        c.due("state(3, 1, 1)", x.state(3, 1, 1), 9);
        c.due("state(5, 0, 0)", x.state(5, 0, 0), 1);
        c.due("state(6, 0, 0)", x.state(6, 0, 0), 3);
        c.due("lose(1)", x.lose(1), 8);
    }

    private static void readAsLongAsEachMayBe() {
        int[] least = {0, 0, 0, 0}, most = {2, 19, 7, 9};
        String[] part = {"kind", "HOUR", "STRAND", "number"};
        c.sentence(11, "as long as each may be: the least and the greatest may");
        reads("least", 1, least);
        reads("greatest", 1, most);
        for (int p = 0; p < 4; p++) {
            c.sentence(11, "as long as each may be: no " + part[p] + " below 0, above the greatest");
            int[] low = least.clone(), high = most.clone();
            low[p] = -1;
            high[p]++;
            reads("below", 0, low);
            reads("above", 0, high);
            reads("second below", 1, 0, 0, 0, 0, low[0], low[1], low[2], low[3], 0, 0, 0, 0);
            reads("second above", 1, 0, 0, 0, 0, high[0], high[1], high[2], high[3], 0, 0, 0, 0);
        }
        c.sentence(11, "as long as each may be: far beyond");
        for (int p = 0; p < 4; p++) {
            for (int far : new int[] {Cases.LEAST, Cases.MOST, 256, 65536}) {
                int[] items = least.clone();
                items[p] = far;
                c.due("read(1)", withSheet(2, items).read(1), 0);
            }
        }
        c.sentence(11, "a first that may not be changes nothing, and is no FINDING");
        c.refused("read(1)", () -> withSheet(2, 3, 0, 0, 0), x -> x.read(1), 0, 0);
    }

    private static void readAsMuchAsThereIsRoom() {
        c.sentence(11, "8 at most: of 60 items eight EVENTS");
        WrackDeeds x = withSheet(0, new int[60]);
        c.due("read(1)", x.read(1), 8);
        c.due("count(5)", x.count(5), 8);
        c.sentence(11, "8 at most: none where it is full");
        c.due("read(1)", x.read(1), 0);
        c.refused("read(0) of a full one", Cases::full, y -> {
            Cases.layAll(y, 0, 0, 1, -2, 3);
            return y.read(0);
        }, 0, 0);
        c.sentence(11, "8 at most: one where there is room for one");
        x.back();
        c.due("read(1)", x.read(1), 1);
        c.due("count(5)", x.count(5), 8);
        c.sentence(11, "EVENTS from a SHEET come behind those told: how many came");
        WrackDeeds y = withSheet(1, 2, 0, 0, 8, 2, 0, 0, 9);
        y.event(2, 0, 0, 1);
        c.due("read(1)", y.read(1), 2);
        c.due("count(5)", y.count(5), 3);
        c.due("state(0, 0, 1)", y.state(0, 0, 1), 9);
        y.back();
        c.due("state(0, 0, 1) then", y.state(0, 0, 1), 8);
        y.back();
        c.due("state(0, 0, 1) at last", y.state(0, 0, 1), 1);
    }
}
