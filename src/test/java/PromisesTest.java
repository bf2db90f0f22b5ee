/** Each promise by hand: ordinary inputs, the edges that the document names, wrong inputs. */
public final class PromisesTest {
    private static final int NONE = WrackDeeds.NONE, BAD = WrackDeeds.BAD, NOT = WrackDeeds.NOT, FULL = WrackDeeds.FULL;
    private static final int NULL = -11, INDEX = -12, CAST = -13, STORE = -14, SIZE = -15, LEAST = Integer.MIN_VALUE;
    private static final long BAD_LONG = Long.MIN_VALUE + 2;
    private static int wrong = 0, asked = 0, promise = 0;

    public static void main(String[] args) {
        for (promise = 1; promise <= 37; promise++) {
            int before = asked;
            run();
            if (asked == before) due("tests of this promise", 0, 1);
        }
        System.out.println(asked + " answers looked at, " + wrong + " not as due");
        if (wrong != 0) System.exit(1);
    }

    private static void run() {
        switch (promise) {
            case 1: aNewObject(); break;
            case 2: type(); break;
            case 3: wipe(); break;
            case 4: undo(); break;
            case 5: fault(); break;
            case 6: strand(); break;
            case 7: tide(); break;
            case 8: route(); break;
            case 9: event(); break;
            case 10: back(); break;
            case 11: read(); break;
            case 12: state(); break;
            case 13: says(); break;
            case 14: deed(); break;
            case 15: voids(); break;
            case 16: forged(); break;
            case 17: tangled(); break;
            case 18: reads(); break;
            case 19: tour(); break;
            case 20: hang(); break;
            case 21: save(); break;
            case 22: fill(); break;
            case 23: seen(); break;
            case 24: forget(); break;
            case 25: never(); break;
            case 26: was(); break;
            case 27: ask(); break;
            case 28: risk(); break;
            case 29: century(); break;
            case 30: sheet(); break;
            case 31: lose(); break;
            case 32: lay(); break;
            case 33: get(); break;
            case 34: copy(); break;
            case 35: write(); break;
            case 36: count(); break;
            case 37: digest(); break;
            default: break;
        }
    }

    private static void due(String what, long got, long want) {
        asked++;
        if (got != want) {
            wrong++;
            System.out.println("promise " + promise + ": " + what + " answered " + got + ", due is " + want);
        }
    }

    private static WrackDeeds made(String strands, String tides, String route) {
        WrackDeeds x = new WrackDeeds();
        typeAll(x, 0, strands);
        typeAll(x, 1, tides);
        typeAll(x, 2, route);
        return x;
    }

    private static void typeAll(WrackDeeds x, int text, String all) {
        for (int i = 0; i < all.length(); i++) x.type(text, all.charAt(i));
    }

    private static void aNewObject() {
        WrackDeeds x = new WrackDeeds();
        for (int what = 0; what <= 8; what++) due("count(" + what + ")", x.count(what), 0);
        for (int s = 0; s < 4; s++) due("lose(" + s + ")", x.lose(s), NULL);
        for (int h = 0; h < 20; h++) due("tide(" + h + ")", x.tide(h), 5);
        for (int i = 0; i < 8; i++) due("route(" + i + ")", x.route(i), NONE);
        for (int t = 0; t < 3; t++) due("fault(" + t + ")", x.fault(t), NONE);
        due("NONE", NONE, -1);
        due("BAD", BAD, -2);
        due("NOT", NOT, -3);
        due("FULL", FULL, -4);
    }

    private static void type() {
        int[] rooms = {71, 20, 8};
        for (int t = 0; t < 3; t++) {
            WrackDeeds x = new WrackDeeds();
            for (int k = 1; k <= rooms[t]; k++) due("type " + k, x.type(t, k % 2 == 0 ? 0 : 255), k);
            due("one too many", x.type(t, 0), FULL);
            due("BAD goes ahead of FULL", x.type(t, 256), BAD);
            due("bytes", x.count(2 + t), rooms[t]);
            due("another text has room", x.type((t + 1) % 3, 1), 1);
        }
        WrackDeeds x = new WrackDeeds();
        due("type(-1, 0)", x.type(-1, 0), BAD);
        due("type(3, 0)", x.type(3, 0), BAD);
        due("type(0, -1)", x.type(0, -1), BAD);
        due("type(0, least)", x.type(0, LEAST), BAD);
        due("nothing came", x.count(2), 0);
    }

    private static void wipe() {
        WrackDeeds x = made("5wa", "12", "a");
        due("wipe(0)", x.wipe(0), 3);
        due("strands", x.count(0), 0);
        due("wipe(0) again", x.wipe(0), 0);
        due("tides stay", x.tide(1), 2);
        due("wipe(1)", x.wipe(1), 2);
        due("tide(1)", x.tide(1), 5);
        due("wipe(2)", x.wipe(2), 1);
        due("route(0)", x.route(0), NONE);
        due("wipe(3)", x.wipe(3), BAD);
        due("wipe(-1)", x.wipe(-1), BAD);
        due("it begins anew", x.type(0, '7'), 1);
    }

    private static void undo() {
        WrackDeeds x = made("5wab", "3", "");
        due("strand(0, 2)", x.strand(0, 2), 2);
        due("undo(0)", x.undo(0), 3);
        due("strand(0, 2) then", x.strand(0, 2), 1);
        due("undo(1)", x.undo(1), 0);
        due("undo(1) again", x.undo(1), NOT);
        due("undo(2)", x.undo(2), NOT);
        due("undo(3)", x.undo(3), BAD);
        due("undo(-1)", x.undo(-1), BAD);
        due("tide(0)", x.tide(0), 5);
    }

    private static void faultOf(int text, String all, int want) {
        WrackDeeds x = new WrackDeeds();
        typeAll(x, text, all);
        due("fault of \"" + all + "\"", x.fault(text), want);
    }

    private static void fault() {
        faultOf(0, "", NONE);
        faultOf(0, "0wa", NONE);
        faultOf(0, "9kabcdab;5dd", NONE);
        faultOf(0, "a", 0);
        faultOf(0, ";", 0);
        faultOf(0, "/wa", 0);
        faultOf(0, ":wa", 0);
        faultOf(0, "1", 1);
        faultOf(0, "1a", 1);
        faultOf(0, "1w", 2);
        faultOf(0, "1w;", 2);
        faultOf(0, "1we", 2);
        faultOf(0, "1w`", 2);
        faultOf(0, "1wa1", 3);
        faultOf(0, "1wabcdabc", 8);
        faultOf(0, "1wabcdabx", 8);
        faultOf(0, "1wa;", 4);
        faultOf(0, "1wa;;", 4);
        faultOf(0, "1wa;2", 5);
        String eight = "0wa;0wa;0wa;0wa;0wa;0wa;0wa;0wa";
        faultOf(0, eight, NONE);
        faultOf(0, eight + ";", 32);
        faultOf(0, eight + ";0wa", 32);
        faultOf(0, eight + "e", 31);
        faultOf(1, "01234567890123456789", NONE);
        faultOf(1, "0a", 1);
        faultOf(1, "/", 0);
        faultOf(1, "09:", 2);
        faultOf(2, "abcdefgh", NONE);
        faultOf(2, "hi", 1);
        faultOf(2, "`", 0);
        WrackDeeds x = new WrackDeeds();
        due("fault(3)", x.fault(3), BAD);
        due("fault(-1)", x.fault(-1), BAD);
    }

    private static void strand() {
        WrackDeeds x = made("7wabcdab;0ka;9ddcb", "", "");
        due("high 0", x.strand(0, 0), 7);
        due("high 2", x.strand(2, 0), 9);
        due("w", x.strand(0, 1), 0);
        due("k", x.strand(1, 1), 1);
        due("d", x.strand(2, 1), 2);
        due("many 0", x.strand(0, 2), 6);
        due("many 1", x.strand(1, 2), 1);
        for (int i = 0; i < 6; i++) due("bladder " + i, x.strand(0, 3 + i), i % 4);
        due("the one", x.strand(1, 3), 0);
        due("no second", x.strand(1, 4), NONE);
        due("no sixth", x.strand(2, 8), NONE);
        due("strand(3, 0)", x.strand(3, 0), BAD);
        due("strand(-1, 0)", x.strand(-1, 0), BAD);
        due("strand(0, 9)", x.strand(0, 9), BAD);
        due("strand(0, -1)", x.strand(0, -1), BAD);
        x.event(2, 0, 0, 1);
        x.event(0, 0, 0, 0);
        due("as told, in spite of a storm", x.strand(0, 0), 7);
        due("as told, in spite of a pop", x.strand(0, 3), 0);
        x.type(0, 'x');
        due("with a fault there is none", x.strand(0, 0), BAD);
    }

    private static void tide() {
        WrackDeeds x = made("", "0918", "");
        due("tide(0)", x.tide(0), 0);
        due("tide(1)", x.tide(1), 9);
        due("tide(3)", x.tide(3), 8);
        due("tide(4)", x.tide(4), 5);
        due("tide(19)", x.tide(19), 5);
        due("tide(20)", x.tide(20), BAD);
        due("tide(-1)", x.tide(-1), BAD);
        x.type(1, 'a');
        due("with a fault", x.tide(1), 5);
    }

    private static void route() {
        WrackDeeds x = made("", "", "hab");
        due("route(0)", x.route(0), 7);
        due("route(1)", x.route(1), 0);
        due("route(2)", x.route(2), 1);
        due("route(3)", x.route(3), NONE);
        due("route(7)", x.route(7), NONE);
        due("route(8)", x.route(8), BAD);
        due("route(-1)", x.route(-1), BAD);
        x.type(2, 'A');
        due("with a fault", x.route(0), NONE);
    }

    private static void event() {
        WrackDeeds x = new WrackDeeds();
        due("kind 3", x.event(3, 0, 0, 0), BAD);
        due("kind -1", x.event(-1, 0, 0, 0), BAD);
        due("hour 20", x.event(0, 20, 0, 0), BAD);
        due("hour -1", x.event(0, -1, 0, 0), BAD);
        due("strand 8", x.event(0, 0, 8, 0), BAD);
        due("strand -1", x.event(0, 0, -1, 0), BAD);
        due("number 10", x.event(0, 0, 0, 10), BAD);
        due("number -1", x.event(0, 0, 0, -1), BAD);
        for (int k = 1; k <= 8; k++) due("event " + k, x.event(k % 3, 19, 7, 9), k);
        due("a ninth", x.event(0, 0, 0, 0), FULL);
        due("BAD goes ahead of FULL", x.event(0, 0, 0, 10), BAD);
        due("events", x.count(5), 8);
    }

    private static void back() {
        WrackDeeds x = made("5wa", "", "");
        due("back() of none", x.back(), NOT);
        x.event(2, 0, 0, 1);
        x.event(2, 0, 0, 2);
        due("high", x.state(0, 0, 1), 2);
        due("back()", x.back(), 1);
        due("high then", x.state(0, 0, 1), 1);
        due("back() again", x.back(), 0);
        due("high as told", x.state(0, 0, 1), 5);
        due("back() of none", x.back(), NOT);
    }

    private static void layAll(WrackDeeds x, int s, int form, int... items) {
        x.sheet(s, form, items.length);
        for (int i = 0; i < items.length; i++) x.lay(s, form, i, items[i]);
    }

    private static void read() {
        WrackDeeds x = made("5wa;4wb", "", "");
        due("read(4)", x.read(4), BAD);
        due("read(-1)", x.read(-1), BAD);
        due("read of a lost one", x.read(2), NULL);
        due("count(8)", x.count(8), 1);
        layAll(x, 0, 0, 2, 3, 0, 9, 1, 4, 1, 0, 0, 0, 0);
        due("two whole ones", x.read(0), 2);
        due("events", x.count(5), 2);
        due("the storm", x.state(3, 0, 1), 9);
        due("the heron", x.state(4, 1, 0), 3);
        layAll(x, 1, 2, 0, 0, 0, 0, 0, 20, 0, 0, 0, 0, 0, 0);
        due("up to one that may not be", x.read(1), 1);
        due("events behind those told", x.count(5), 3);
        layAll(x, 3, 1, new int[60]);
        due("as long as there is room", x.read(3), 5);
        due("events", x.count(5), 8);
        due("none may be more", x.read(3), 0);
        layAll(x, 3, 1, 0, 0, 0);
        due("none is whole", x.read(3), 0);
    }

    private static void state() {
        // Tides 0 to 9 and again: of rock 3, above by -3, -2 .. 6.
        WrackDeeds x = made("3wa;3ka;3da", "01234567890123456789", "");
        int[] wrack = {0, 0, 0, 1, 1, 1, 2, 2, 2, 2};
        int[] kelp = {0, 0, 0, 1, 1, 1, 1, 1, 2, 2};
        for (int h = 0; h < 20; h++) {
            due("wrack in " + h, x.state(h, 0, 0), wrack[h % 10]);
            due("kelp in " + h, x.state(h, 1, 0), kelp[h % 10]);
            due("dulse in " + h, x.state(h, 2, 0), h < 10 && wrack[h] == 1 ? 4 : wrack[h % 10]);
            due("high in " + h, x.state(h, 0, 1), 3);
        }
        x.event(1, 5, 0, 0);
        due("ahead of the heron", x.state(4, 0, 0), 1);
        due("in its hour", x.state(5, 0, 0), 3);
        due("it stays so", x.state(19, 0, 0), 3);
        x.event(2, 12, 1, 7);
        x.event(2, 8, 1, 9);
        x.event(2, 12, 1, 0);
        x.event(2, 15, 0, 6);
        x.event(2, 0, 7, 6);
        due("ahead of storms", x.state(7, 1, 1), 3);
        due("the storm of the earlier hour, told later", x.state(8, 1, 1), 9);
        due("it holds on", x.state(11, 1, 1), 9);
        due("of one hour the one told last", x.state(12, 1, 1), 0);
        due("dry by the storm", x.state(8, 1, 0), 0);
        due("an eaten one is as high as a storm says", x.state(15, 0, 1), 6);
        due("state(20, 0, 0)", x.state(20, 0, 0), BAD);
        due("state(-1, 0, 0)", x.state(-1, 0, 0), BAD);
        due("state(0, 3, 0)", x.state(0, 3, 0), BAD);
        due("state(0, -1, 0)", x.state(0, -1, 0), BAD);
        due("state(0, 0, 2)", x.state(0, 0, 2), BAD);
        due("state(0, 0, -1)", x.state(0, 0, -1), BAD);
    }

    private static void says() {
        WrackDeeds x = made("3wabd;3wc", "", "");
        x.event(0, 4, 0, 1);
        x.event(0, 0, 1, 1);
        x.event(1, 9, 0, 0);
        due("a", x.says(0, 0, 0), 0);
        due("d", x.says(0, 0, 2), 3);
        due("no fourth", x.says(0, 0, 3), NONE);
        due("ahead of the pop", x.says(3, 0, 1), 1);
        due("popped", x.says(4, 0, 1), 4);
        due("another is not", x.says(4, 0, 2), 3);
        due("a pop of one that there is not", x.says(0, 1, 0), 2);
        due("that one", x.says(0, 1, 1), NONE);
        due("ahead of the heron", x.says(8, 0, 0), 0);
        due("eaten", x.says(9, 0, 0), 4);
        due("eaten, no fourth", x.says(9, 0, 3), NONE);
        due("says(20, 0, 0)", x.says(20, 0, 0), BAD);
        due("says(-1, 0, 0)", x.says(-1, 0, 0), BAD);
        due("says(0, 2, 0)", x.says(0, 2, 0), BAD);
        due("says(0, 0, 6)", x.says(0, 0, 6), BAD);
        due("says(0, 0, -1)", x.says(0, 0, -1), BAD);
        due("says(0, 0, 5)", x.says(0, 0, 5), NONE);
    }

    private static void deed() {
        WrackDeeds x = made("3wab;4dbd;5kbb;0wca;9waa", "33", "");
        due("in all but those without water, and later ones", x.deed(0, 0), 20);
        due("dulse not by night", x.deed(1, 0), 10);
        due("dry in two hours", x.deed(2, 0), 18);
        due("always under", x.deed(3, 0), 0);
        due("ab on the least that begins with b", x.deed(0, 1), 1);
        due("bd is an original", x.deed(1, 1), NONE);
        due("bb not on itself", x.deed(2, 1), 1);
        due("ca on ab", x.deed(3, 1), 0);
        due("aa not on itself", x.deed(4, 1), 0);
        x.event(0, 0, 1, 0);
        due("popped or not", x.deed(0, 1), 1);
        x.event(1, 7, 0, 0);
        due("eaten is not legible", x.deed(0, 0), 7);
        due("deed(5, 0)", x.deed(5, 0), BAD);
        due("deed(-1, 0)", x.deed(-1, 0), BAD);
        due("deed(0, 2)", x.deed(0, 2), BAD);
        due("deed(0, -1)", x.deed(0, -1), BAD);
    }

    private static void voids() {
        // 0 hangs on 1, 1 on 2, 2 on 0; 3 on 0; 4 on 3.
        WrackDeeds x = made("1wab;1wbc;1wca;1wda;1wdd", "", "");
        due("4 hangs on 3", x.deed(4, 1), 3);
        due("none is", x.voids(19), 0);
        x.event(1, 6, 3, 0);
        due("ahead of it", x.voids(5), 0);
        due("behind it", x.voids(6), 0b11000);
        x.event(1, 8, 1, 0);
        due("all round, and what hangs on it", x.voids(8), 0b11111);
        due("the earlier hour", x.voids(7), 0b11000);
        x.event(1, 0, 7, 0);
        due("a strand that there is not", x.voids(0), 0);
        due("voids(20)", x.voids(20), BAD);
        due("voids(-1)", x.voids(-1), BAD);
        due("without strands", new WrackDeeds().voids(0), 0);
    }

    private static void forged() {
        WrackDeeds x = made("1waa;1wabab;1waabb;1waaa;1waabbcc;1wa;1wabba;1waabc", "", "");
        due("forged()", x.forged(), 0b10101);
        x.event(0, 0, 0, 0);
        due("as told", x.forged(), 0b10101);
        due("four alike are", made("1wdddd", "", "").forged(), 1);
        due("none", new WrackDeeds().forged(), 0);
    }

    private static void tangled() {
        WrackDeeds x = made("1wabcd;1wdbcd;1wba;1wdcba;1wa;1wa", "", "");
        due("abcd and dbcd, ba and dcba", x.tangled(0), 2);
        due("bcd", x.tangled(1), 3);
        x.event(0, 0, 0, 1);
        x.event(1, 0, 1, 1);
        due("as told", x.tangled(0), 2);
        due("one alike is no tangle", made("1wa;1wa", "", "").tangled(1), 0);
        due("one alike is no pair", made("1wab;1wb", "", "").tangled(0), 0);
        due("a strand not with itself", made("1wabab", "", "").tangled(0), 0);
        due("six", made("1wabcdab;1wabcdab", "", "").tangled(1), 6);
        due("tangled(2)", x.tangled(2), BAD);
        due("tangled(-1)", x.tangled(-1), BAD);
    }

    private static void reads() {
        WrackDeeds x = made("5wa;3wb;9wc", "", "abac");
        due("at once", x.reads(0), 0);
        due("out in 1, two below", x.reads(1), 3);
        due("out in 4, two above", x.reads(2), 6);
        due("9 is dry", x.reads(3), NONE);
        due("so many", x.reads(8), 3);
        due("not so long", x.reads(4), NONE);
        x.event(2, 5, 0, 3);
        due("the rock that he made for is lower then", x.reads(2), NONE);
        due("so many then", x.reads(8), 2);
        x.event(2, 9, 0, 5);
        due("he waits till it is as high again", x.reads(2), 9);
        due("reads(9)", x.reads(9), BAD);
        due("reads(-1)", x.reads(-1), BAD);
        WrackDeeds none = made("5wa", "", "aha");
        due("no such strand", none.reads(1), NONE);
        due("no more behind it", none.reads(2), NONE);
        due("one", none.reads(8), 1);
        WrackDeeds late = made("9wa", "00000000000000000009", "aa");
        due("the last hour", late.reads(0), 19);
        due("none behind it", late.reads(1), NONE);
        WrackDeeds red = made("5da", "", "aa");
        due("red is not read", red.reads(0), 10);
        due("then it is", red.reads(1), 11);
        WrackDeeds storm = made("9wa", "", "a");
        storm.event(2, 0, 0, 4);
        due("so high in hour 0", storm.reads(0), 0);
        storm.event(1, 0, 0, 0);
        due("eaten", storm.reads(0), NONE);
        due("an empty route", made("5wa", "", "").reads(0), NONE);
    }

    private static void tour() {
        // 3 to 5 is all that tide 5 gives to wrack.
        WrackDeeds x = made("5wa;3wb;4wc;9wd", "", "");
        due("three", x.tour(0), 3);
        due("0 to 2 to 1: 0, 2, 4", x.tour(1), 4);
        due("the least row", x.tour(2), 0);
        due("the second", x.tour(3), 2);
        due("the third", x.tour(4), 1);
        due("no fourth", x.tour(5), NONE);
        due("no eighth", x.tour(9), NONE);
        x.event(1, 1, 1, 0);
        due("1 must be first", x.tour(2), 1);
        due("then", x.tour(3), 2);
        due("still in 4", x.tour(1), 4);
        x.event(1, 0, 0, 0);
        due("two", x.tour(0), 2);
        due("the hour", x.tour(1), 2);
        due("tour(10)", x.tour(10), BAD);
        due("tour(-1)", x.tour(-1), BAD);
        WrackDeeds dry = made("9wa", "", "a");
        due("none", dry.tour(0), 0);
        due("no hour", dry.tour(1), NONE);
        due("no first", dry.tour(2), NONE);
        // It is best to come late to 1: who sets out for it before hour 3 makes for 9, and waits in vain.
        WrackDeeds wait = made("5wa;9wb;5wc", "", "");
        wait.event(2, 2, 1, 5);
        due("three by way of a storm", wait.tour(0), 3);
        due("the least such row", wait.tour(3), 2);
        due("the last", wait.tour(4), 1);
        due("in", wait.tour(1), 2);
        wait.wipe(0);
        due("without strands", wait.tour(0), 0);
    }

    private static void hang() {
        WrackDeeds x = made("", "01234567890123456789", "");
        due("wrack: three tides, twice", x.hang(0, 1), 6);
        due("the least: 0", x.hang(0, 0), 0);
        due("kelp: five tides, twice", x.hang(1, 1), 10);
        due("dulse: by day only", x.hang(2, 1), 3);
        due("dulse: the least", x.hang(2, 0), 0);
        WrackDeeds high = made("", "99999999999999999999", "");
        due("wrack under 9: 7", high.hang(0, 0), 7);
        due("kelp under 9: 5", high.hang(1, 0), 5);
        due("all hours", high.hang(1, 1), 20);
        due("by day", high.hang(2, 1), 10);
        high.event(1, 0, 0, 0);
        due("told herons are for told strands", high.hang(0, 1), 20);
        due("hang(3, 0)", x.hang(3, 0), BAD);
        due("hang(-1, 0)", x.hang(-1, 0), BAD);
        due("hang(0, 2)", x.hang(0, 2), BAD);
        due("hang(0, -1)", x.hang(0, -1), BAD);
    }

    private static void save() {
        // 0 hangs on 1; 1 and 2 are originals.
        WrackDeeds x = made("1wab;1wbd;1wcc", "", "");
        due("nothing to save", x.save(0, NONE), 0);
        due("no first", x.save(0, 0), NONE);
        x.event(0, 0, 0, 0);
        x.event(1, 19, 1, 0);
        due("one", x.save(0, NONE), 1);
        due("that", x.save(0, 0), 1);
        due("no second", x.save(0, 1), NONE);
        due("another is well", x.save(2, NONE), 0);
        x.event(1, 0, 2, 0);
        x.event(1, 3, 0, 0);
        due("two", x.save(0, NONE), 2);
        due("first", x.save(0, 0), 1);
        due("second", x.save(0, 1), 3);
        due("only one of them for 1", x.save(1, NONE), 1);
        x.event(1, 3, 1, 0);
        due("three are too many", x.save(0, NONE), NONE);
        due("no first of them", x.save(0, 0), NONE);
        due("two for 1", x.save(1, 1), 4);
        due("save(3, 0)", x.save(3, 0), BAD);
        due("save(-1, 0)", x.save(-1, 0), BAD);
        due("save(0, 2)", x.save(0, 2), BAD);
        due("save(0, -2)", x.save(0, -2), BAD);
    }

    private static void fill() {
        WrackDeeds x = made("1waba;1wabcdab;1waab;1wb", "", "");
        due("nothing popped: one way", x.fill(0, 0, NONE), 1);
        due("as told", x.fill(0, 0, 1), 1);
        due("no fourth", x.fill(0, 0, 3), NONE);
        due("alike as told: no way", x.fill(0, 2, NONE), 0);
        due("no way, no bladder", x.fill(0, 2, 0), NONE);
        x.event(0, 2, 0, 1);
        due("b, c, d", x.fill(2, 0, NONE), 3);
        due("b", x.fill(2, 0, 1), 1);
        due("ahead of it", x.fill(1, 0, NONE), 1);
        x.event(0, 3, 0, 0);
        due("3 by 3", x.fill(3, 0, NONE), 9);
        due("a ahead", x.fill(3, 0, 0), 0);
        due("then b", x.fill(3, 0, 1), 1);
        x.event(0, 0, 2, 0);
        due("a popped one may part two alike", x.fill(0, 2, NONE), 3);
        due("b ahead of ab", x.fill(0, 2, 0), 1);
        x.event(1, 5, 1, 0);
        due("eaten: all of it", x.fill(5, 1, NONE), 972);
        due("the last of ababab", x.fill(5, 1, 5), 1);
        x.event(0, 0, 3, 0);
        due("one alone", x.fill(0, 3, NONE), 4);
        due("fill(20, 0, 0)", x.fill(20, 0, 0), BAD);
        due("fill(-1, 0, 0)", x.fill(-1, 0, 0), BAD);
        due("fill(0, 4, 0)", x.fill(0, 4, 0), BAD);
        due("fill(0, 0, 6)", x.fill(0, 0, 6), BAD);
        due("fill(0, 0, -2)", x.fill(0, 0, -2), BAD);
        due("fill(0, 0, 5)", x.fill(0, 0, 5), NONE);
    }

    private static void seen() {
        WrackDeeds x = new WrackDeeds();
        due("hour 20", x.seen(20, 0, 0), BAD);
        due("hour -1", x.seen(-1, 0, 0), BAD);
        due("strand 8", x.seen(0, 8, 0), BAD);
        due("strand -1", x.seen(0, -1, 0), BAD);
        due("state 5", x.seen(0, 0, 5), BAD);
        due("state -1", x.seen(0, 0, -1), BAD);
        for (int k = 1; k <= 8; k++) due("seen " + k, x.seen(19, 7, 4), k);
        due("a ninth", x.seen(0, 0, 0), FULL);
        due("BAD goes ahead of FULL", x.seen(0, 0, 5), BAD);
        due("count(7)", x.count(7), 8);
    }

    private static void forget() {
        WrackDeeds x = made("5wa", "", "");
        due("none", x.forget(), 0);
        x.seen(0, 0, 0);
        x.seen(1, 0, 0);
        due("it cannot have hung so", x.was(0, 1), 0);
        due("forget()", x.forget(), 2);
        due("count(7)", x.count(7), 0);
        due("then it can", x.was(0, 1), 7);
        due("forget() again", x.forget(), 0);
    }

    private static void never() {
        WrackDeeds x = made("5wa;5wb", "", "");
        due("no events", x.never(), 0);
        x.event(1, 4, 0, 0);
        x.event(2, 6, 1, 9);
        x.event(1, 8, 0, 0);
        x.event(0, 0, 7, 0);
        due("nothing seen: each", x.never(), 15);
        x.seen(5, 0, 3);
        due("the heron was", x.never(), 14);
        x.seen(7, 1, 1);
        due("but not the storm", x.never(), 2);
        x.seen(3, 0, 3);
        due("this no one tells", x.never(), 0);
        x.forget();
        x.seen(5, 0, 1);
        due("the first heron was not", x.never(), 1);
        x.forget();
        x.seen(9, 0, 1);
        due("either alone is not enough", x.never(), 0);
        x.forget();
        x.seen(0, 2, 1);
        due("one that there is not", x.never(), 0);
    }

    private static void was() {
        WrackDeeds x = made("5wa;4kb", "0123456789", "");
        due("nothing seen", x.was(0, 0), 1023);
        due("nothing seen of its kind", x.was(0, 1), 7);
        x.seen(6, 0, 1);
        due("by tide 6: 4 to 6", x.was(0, 0), 0b1110000);
        due("w or k", x.was(0, 1), 0b011);
        due("the other any", x.was(1, 0), 1023);
        x.seen(8, 0, 2);
        due("by tide 8 under: 4, 5", x.was(0, 0), 0b110000);
        due("w only", x.was(0, 1), 0b001);
        x.seen(8, 1, 2);
        due("1 is not under as told: none of 0", x.was(0, 0), 0);
        due("of 1 below 4", x.was(1, 0), 0b1111);
        due("of 1 w or d", x.was(1, 1), 0b101);
        x.forget();
        x.seen(6, 0, 4);
        due("red: dulse", x.was(0, 1), 0b100);
        x.forget();
        x.event(2, 3, 0, 9);
        x.seen(4, 0, 0);
        due("a storm hides it", x.was(0, 0), 1023);
        x.seen(0, 7, 0);
        due("one that there is not", x.was(0, 0), 0);
        due("was(2, 0)", x.was(2, 0), BAD);
        due("was(-1, 0)", x.was(-1, 0), BAD);
        due("was(0, 2)", x.was(0, 2), BAD);
        due("was(0, -1)", x.was(0, -1), BAD);
    }

    private static void ask() {
        WrackDeeds x = made("5wa;5kb", "0123456789", "");
        // Wrack by tide t: under 0 .. t-3, legible t-2 .. t, dry t+1 .. 9: at 5, 3 and 3 and 4; at 6, 4 and 3 and 3.
        due("wrack: tide 5", x.ask(0), 5);
        // Kelp: under 0 .. t-5: at 5, 1 and 5 and 4; at 6, 2 and 5 and 3; at 4, 5 and 5.
        due("kelp: tide 4", x.ask(1), 4);
        x.seen(6, 0, 1);
        // Left are 4, 5, 6: tide 4 parts 1 and 2, tide 5 parts 2 and 1, tide 7 parts 1 and 2: 2 at best, soonest by 4.
        due("of three", x.ask(0), 4);
        x.seen(6, 0, 0);
        due("none is left", x.ask(0), 0);
        x.forget();
        x.event(1, 4, 0, 0);
        // Up to tide 3 that is dry 4 .. 9.
        due("ahead of the heron", x.ask(0), 3);
        due("ask(2)", x.ask(2), BAD);
        due("ask(-1)", x.ask(-1), BAD);
    }

    private static void risk() {
        WrackDeeds x = made("1wab;1wbd;1wcc", "", "");
        due("0 by", x.risk(7, 0, 19, 0), 0);
        due("1", x.risk(7, 0, 19, 1), 1);
        x.event(1, 5, 0, 0);
        due("ahead of it", x.risk(7, 0, 4, 0), 0);
        due("7 by", x.risk(7, 0, 5, 0), 7);
        due("16", x.risk(7, 0, 5, 1), 16);
        due("12 sixteenths: 3 by", x.risk(12, 0, 5, 0), 3);
        due("4", x.risk(12, 0, 5, 1), 4);
        due("16 sixteenths: 1 by", x.risk(16, 0, 5, 0), 1);
        due("1", x.risk(16, 0, 5, 1), 1);
        due("0 sixteenths: 0 by", x.risk(0, 0, 5, 0), 0);
        due("1", x.risk(0, 0, 5, 1), 1);
        x.event(1, 6, 1, 0);
        due("8: 3 by", x.risk(8, 0, 6, 0), 3);
        due("4", x.risk(8, 0, 6, 1), 4);
        due("the one it hangs on: 1 by", x.risk(8, 1, 6, 0), 1);
        due("an eaten one that it does not hang on", x.risk(8, 2, 19, 0), 0);
        for (int k = 0; k < 6; k++) x.event(1, 0, 0, 0);
        due("eight herons: 2^32 less 15^8 by", x.risk(1, 0, 19, 0), 4294967296L - 2562890625L);
        due("2^32", x.risk(1, 0, 19, 1), 4294967296L);
        due("c 17", x.risk(17, 0, 0, 0), BAD_LONG);
        due("c -1", x.risk(-1, 0, 0, 0), BAD_LONG);
        due("strand 3", x.risk(0, 3, 0, 0), BAD_LONG);
        due("strand -1", x.risk(0, -1, 0, 0), BAD_LONG);
        due("hour 20", x.risk(0, 0, 20, 0), BAD_LONG);
        due("hour -1", x.risk(0, 0, -1, 0), BAD_LONG);
        due("what 2", x.risk(0, 0, 0, 2), BAD_LONG);
        due("what -1", x.risk(0, 0, 0, -1), BAD_LONG);
    }

    private static void century() {
        WrackDeeds x = made("5wa;4wb;3wc", "", "abc");
        // What a seed draws is told to another object as events, and must do the same there.
        int seed = 1;
        int[] upper = new int[32];
        for (int k = 0; k < 32; k++) {
            seed = seed * 1103515245 + 12345;
            upper[k] = seed >>> 16;
        }
        for (int n = 0; n <= 8; n++) {
            WrackDeeds y = made("5wa;4wb;3wc", "", "abc");
            for (int k = 0; k < n; k++) y.event(upper[4 * k] % 3, upper[4 * k + 1] % 20, upper[4 * k + 2] % 3, upper[4 * k + 3] % 10);
            due("void by 1, " + n, x.century(1, n, 0), Integer.bitCount(y.voids(19)));
            due("read by 1, " + n, x.century(1, n, 1), y.reads(8));
        }
        x.event(1, 0, 0, 0);
        due("in place of those told: none void", x.century(5, 0, 0), 0);
        due("in place of those told: all read", x.century(5, 0, 1), 3);
        due("events are as they were", x.count(5), 1);
        due("and what they do", x.reads(8), 0);
        due("n 9", x.century(0, 9, 0), BAD);
        due("n -1", x.century(0, -1, 0), BAD);
        due("what 2", x.century(0, 0, 2), BAD);
        due("what -1", x.century(0, 0, -1), BAD);
        due("without strands", made("", "", "abc").century(3, 8, 1), 0);
    }

    private static void sheet() {
        WrackDeeds x = new WrackDeeds();
        due("60", x.sheet(0, 0, 60), 60);
        due("0", x.sheet(3, 2, 0), 0);
        due("61", x.sheet(0, 0, 61), BAD);
        due("sheet 4", x.sheet(4, 0, 1), BAD);
        due("sheet -1", x.sheet(-1, 0, 1), BAD);
        due("form 3", x.sheet(0, 3, 1), BAD);
        due("form -1", x.sheet(0, -1, 1), BAD);
        due("BAD goes ahead of SIZE", x.sheet(0, 3, -1), BAD);
        due("no finding so far", x.count(8), 0);
        due("-1", x.sheet(0, 1, -1), SIZE);
        due("the least", x.sheet(0, 1, LEAST), SIZE);
        due("SIZE", x.count(8), 5);
        x.lay(0, 0, 59, 7);
        due("it is as it was", x.get(0, 0, 59), 7);
        due("anew", x.sheet(0, 0, 60), 60);
        due("items are 0 at first", x.get(0, 0, 59), 0);
    }

    private static void lose() {
        WrackDeeds x = new WrackDeeds();
        x.sheet(2, 1, 7);
        due("lose(2)", x.lose(2), 7);
        due("lose(2) again", x.lose(2), NULL);
        due("count(8)", x.count(8), 1);
        due("lose(4)", x.lose(4), BAD);
        due("lose(-1)", x.lose(-1), BAD);
        due("its items are gone", x.lay(2, 1, 0, 1), NULL);
    }

    private static void lay() {
        WrackDeeds x = new WrackDeeds();
        x.sheet(0, 0, 2);
        x.sheet(1, 1, 2);
        x.sheet(2, 2, 2);
        due("a byte", x.lay(0, 0, 0, 0x12380), 1);
        due("its lowest bits", x.get(0, 0, 0), -128);
        due("a short", x.lay(1, 1, 1, 0x18001), 1);
        due("its lowest bits", x.get(1, 1, 1), -32767);
        due("an int", x.lay(2, 2, 1, LEAST + 1), 1);
        due("all bits", x.get(2, 2, 1), LEAST + 1);
        due("index 2", x.lay(0, 0, 2, 0), INDEX);
        due("index -1", x.lay(0, 0, -1, 0), INDEX);
        due("count(8)", x.count(8), 2);
        due("CAST goes ahead of INDEX", x.lay(0, 1, 2, 0), CAST);
        due("count(8) then", x.count(8), 3);
        due("NULL goes ahead of CAST", x.lay(3, 2, 9, 0), NULL);
        due("BAD goes ahead of NULL", x.lay(3, 3, 0, 0), BAD);
        due("form -1", x.lay(0, -1, 0, 0), BAD);
        due("sheet 4", x.lay(4, 0, 0, 0), BAD);
        due("sheet -1", x.lay(-1, 0, 0, 0), BAD);
        due("count(8) at last", x.count(8), 1);
    }

    private static void get() {
        WrackDeeds x = new WrackDeeds();
        x.sheet(0, 2, 3);
        x.lay(0, 2, 2, -5);
        due("the item", x.get(0, 2, 2), -5);
        due("BAD sheet", x.get(4, 2, 0), LEAST);
        due("BAD sheet -1", x.get(-1, 2, 0), LEAST);
        due("BAD form", x.get(0, 3, 0), LEAST);
        due("BAD form -1", x.get(0, -1, 0), LEAST);
        due("no finding", x.count(8), 0);
        due("index 3", x.get(0, 2, 3), LEAST);
        due("INDEX", x.count(8), 2);
        due("another form", x.get(0, 1, 9), LEAST);
        due("CAST", x.count(8), 3);
        due("lost", x.get(1, 1, 9), LEAST);
        due("NULL", x.count(8), 1);
        due("index -1", x.get(0, 2, -1), LEAST);
        due("INDEX again", x.count(8), 2);
    }

    private static void copy() {
        WrackDeeds x = new WrackDeeds();
        layAll(x, 0, 1, 10, 20, 30, 40, 50);
        layAll(x, 1, 1, 0, 0, 0);
        layAll(x, 2, 2, 0, 0, 0);
        due("to another", x.copy(0, 3, 1, 1, 2), 1);
        due("came", x.get(1, 1, 1), 40);
        due("came too", x.get(1, 1, 2), 50);
        due("not this", x.get(1, 1, 0), 0);
        due("to itself, forward", x.copy(0, 0, 0, 1, 4), 1);
        for (int i = 1; i < 5; i++) due("as they were " + i, x.get(0, 1, i), 10 * i);
        due("to itself, backward", x.copy(0, 1, 0, 0, 4), 1);
        for (int i = 0; i < 4; i++) due("as they were then " + i, x.get(0, 1, i), 10 * (i + 1));
        due("none, at the end", x.copy(0, 5, 1, 3, 0), 1);
        due("none, behind the end", x.copy(0, 6, 1, 3, 0), INDEX);
        due("i below 0", x.copy(0, -1, 1, 0, 1), INDEX);
        due("j below 0", x.copy(0, 0, 1, -1, 1), INDEX);
        due("n below 0", x.copy(0, 0, 1, 0, -1), INDEX);
        due("not so many in s", x.copy(1, 2, 0, 0, 2), INDEX);
        due("not so many in t", x.copy(0, 0, 1, 2, 2), INDEX);
        due("far beyond", x.copy(0, Integer.MAX_VALUE, 1, 0, Integer.MAX_VALUE), INDEX);
        due("count(8)", x.count(8), 2);
        due("STORE goes ahead of INDEX", x.copy(0, -1, 2, 0, 1), STORE);
        due("unlike, though none", x.copy(0, 0, 2, 0, 0), STORE);
        due("s lost", x.copy(3, 0, 2, 0, 1), NULL);
        due("t lost", x.copy(0, 0, 3, 0, 1), NULL);
        due("sheet 4", x.copy(4, 0, 0, 0, 1), BAD);
        due("to sheet 4", x.copy(3, 0, 4, 0, 1), BAD);
        due("sheet -1", x.copy(-1, 0, 0, 0, 1), BAD);
        due("to sheet -1", x.copy(0, 0, -1, 0, 1), BAD);
        due("nothing changed", x.get(1, 1, 1), 40);
    }

    private static void write() {
        WrackDeeds x = made("3da;5wb", "01234567890123456789", "");
        x.event(1, 15, 0, 0);
        int[] want = {0, 0, 0, 4, 4, 4, 2, 2, 2, 2, 0, 0, 0, 1, 1, 3, 3, 3, 3, 3};
        for (int form = 0; form < 3; form++) {
            x.sheet(form, form, 25);
            x.lay(form, form, 20, 77);
            due("write", x.write(0, form), 20);
            for (int h = 0; h < 20; h++) due("in " + h, x.get(form, form, h), want[h]);
            due("no more", x.get(form, form, 20), 77);
        }
        x.sheet(3, 0, 4);
        due("as many as there are", x.write(0, 3), 4);
        due("the last of them", x.get(3, 0, 3), 4);
        x.sheet(3, 0, 0);
        due("none", x.write(0, 3), 0);
        x.lose(3);
        due("lost", x.write(0, 3), NULL);
        due("BAD goes ahead of NULL", x.write(2, 3), BAD);
        due("strand -1", x.write(-1, 0), BAD);
        due("sheet 4", x.write(0, 4), BAD);
        due("sheet -1", x.write(0, -1), BAD);
    }

    private static void count() {
        WrackDeeds x = made("5wa;4wb", "123", "abh");
        x.event(1, 19, 0, 0);
        x.event(1, 19, 0, 0);
        x.seen(0, 0, 0);
        int[] want = {2, 3, 7, 3, 3, 2, 0, 1, 0};
        for (int what = 0; what <= 8; what++) {
            if (what != 6) due("count(" + what + ")", x.count(what), want[what]);
        }
        due("count(6)", x.count(6), x.reads(8));
        x.wipe(1);
        due("two of three are read", x.count(6), 2);
        x.lose(0);
        due("the finding", x.count(8), 1);
        x.type(2, 'x');
        due("no route by a fault", x.count(1), 0);
        due("but its bytes", x.count(4), 4);
        due("none read", x.count(6), 0);
        x.type(0, 'x');
        due("no strands by a fault", x.count(0), 0);
        due("but their bytes", x.count(2), 8);
        due("count(9)", x.count(9), BAD);
        due("count(-1)", x.count(-1), BAD);
    }

    private static void digest() {
        WrackDeeds x = new WrackDeeds();
        long h = 17;
        for (int k = 0; k < 8; k++) h = 31 * h;
        for (int k = 0; k < 3; k++) h = 31 * h - 1;
        for (int k = 0; k < 20; k++) h = 31 * h + 5;
        for (int k = 0; k < 16; k++) h = 31 * h - 1;
        for (int k = 0; k < 5; k++) h = 31 * h;
        h = 31 * h;
        for (int k = 0; k < 3; k++) h = 31 * h - 1;
        int[] hangs = {3, 20, 1, 20, 3, 10};
        for (int v : hangs) h = 31 * h + v;
        for (int k = 0; k < 3; k++) h = 31 * h;
        due("of a new object", x.digest(), h);
        typeAll(x, 0, "5wab;3kba");
        typeAll(x, 2, "ab");
        x.event(1, 6, 1, 0);
        x.event(0, 0, 0, 0);
        x.seen(0, 0, 1);
        due("of some", x.digest(), DigestByCalls.of(x));
        due("again: it changes nothing", x.digest(), DigestByCalls.of(x));
        x.lose(0);
        due("a finding is not in it", x.digest(), DigestByCalls.of(x));
    }
}
