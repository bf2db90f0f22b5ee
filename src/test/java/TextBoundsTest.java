/** Promises 1 to 8, and the terms they use: each sentence that names a boundary case. */
public final class TextBoundsTest {
    private static final int NONE = Cases.NONE, BAD = Cases.BAD, NOT = Cases.NOT, FULL = Cases.FULL, NULL = Cases.NULL;
    private static final int[] ROOM = {71, 20, 8};
    private static final Cases c = new Cases(1, 8);

    public static void main(String[] args) {
        aNewObject();
        type();
        typeIsFull();
        wipe();
        undo();
        faultOfStrands();
        faultOfTooMuch();
        faultOfTheOthers();
        withAFault();
        strand();
        tide();
        route();
        c.end();
    }

    private static WrackDeeds made(String strands, String tides, String route) { return Cases.made(strands, tides, route); }

    /** A text with no more room: its bytes are 1, 2 and so on. */
    private static WrackDeeds filled(int text) {
        WrackDeeds x = new WrackDeeds();
        for (int k = 1; k <= ROOM[text]; k++) x.type(text, k);
        return x;
    }

    private static void aNewObject() {
        WrackDeeds x = new WrackDeeds();
        c.sentence(1, "No STRANDS");
        c.due("count(0)", x.count(0), 0);
        c.due("count(2)", x.count(2), 0);
        c.due("strand(0, 0)", x.strand(0, 0), BAD);
        c.due("fault(0)", x.fault(0), NONE);
        c.due("voids(19)", x.voids(19), 0);
        c.due("tour(0)", x.tour(0), 0);
        c.sentence(1, "no TIDES");
        c.due("count(3)", x.count(3), 0);
        c.due("fault(1)", x.fault(1), NONE);
        for (int h = 0; h < 20; h++) c.due("tide(" + h + ")", x.tide(h), 5);
        c.sentence(1, "no ROUTE");
        c.due("count(1)", x.count(1), 0);
        c.due("count(4)", x.count(4), 0);
        c.due("count(6)", x.count(6), 0);
        c.due("fault(2)", x.fault(2), NONE);
        for (int i = 0; i < 8; i++) c.due("route(" + i + ")", x.route(i), NONE);
        c.sentence(1, "no EVENTS");
        c.due("count(5)", x.count(5), 0);
        c.due("never()", x.never(), 0);
        c.due("back()", x.back(), NOT);
        c.sentence(1, "nothing SEEN, no FINDING (0 before any)");
        c.due("count(7)", x.count(7), 0);
        c.due("forget()", x.forget(), 0);
        c.due("count(8)", x.count(8), 0);
        c.sentence(1, "all SHEETS are LOST");
        for (int s = 0; s < 4; s++) c.due("lose(" + s + ")", x.lose(s), NULL);
        c.sentence(1, "an object is used for at most 512 calls: the last answers as the first");
        WrackDeeds old = new WrackDeeds();
        long first = old.digest();
        for (int k = 2; k < Cases.CALLS; k++) old.digest();
        c.due("digest()", old.digest(), first);
        WrackDeeds typed = new WrackDeeds();
        for (int k = 2; k < Cases.CALLS; k += 2) {
            typed.type(0, '5');
            typed.undo(0);
        }
        c.due("type(0, '5')", typed.type(0, '5'), 1);
        c.due("count(2)", typed.count(2), 1);
        c.sentence(1, "a new object has nothing of an older one");
        Cases.some();
        c.due("digest()", new WrackDeeds().digest(), x.digest());
        c.due("lose(0)", new WrackDeeds().lose(0), NULL);
        c.due("count(8)", new WrackDeeds().count(8), 0);
    }

    private static void type() {
        c.sentence(2, "a byte is 0 at least");
        c.due("type(1, 0)", new WrackDeeds().type(1, 0), 1);
        c.sentence(2, "a byte is 255 at most");
        c.due("type(1, 255)", new WrackDeeds().type(1, 255), 1);
        c.sentence(2, "BAD: a byte below 0");
        c.bad("type(0, -1)", x -> x.type(0, -1));
        c.bad("type(0, least)", x -> x.type(0, Cases.LEAST));
        c.bad("type(0, '5' less 256)", x -> x.type(0, '5' - 256));
        c.sentence(2, "BAD: a byte above 255");
        c.bad("type(0, 256)", x -> x.type(0, 256));
        c.bad("type(0, greatest)", x -> x.type(0, Cases.MOST));
        c.bad("type(0, '5' and 256)", x -> x.type(0, '5' + 256));
        c.sentence(2, "BAD: no such text, below 0");
        c.bad("type(-1, '5')", x -> x.type(-1, '5'));
        c.bad("type(least, '5')", x -> x.type(Cases.LEAST, '5'));
        c.sentence(2, "BAD: no such text, above 2");
        c.bad("type(3, '5')", x -> x.type(3, '5'));
        c.bad("type(greatest, '5')", x -> x.type(Cases.MOST, '5'));
        c.sentence(2, "how many: also of bytes with which the text cannot go on");
        WrackDeeds x = new WrackDeeds();
        c.due("type(0, 'x')", x.type(0, 'x'), 1);
        c.due("type(0, 'y')", x.type(0, 'y'), 2);
        c.due("count(2)", x.count(2), 2);
    }

    private static void typeIsFull() {
        for (int t = 0; t < 3; t++) {
            int text = t, room = ROOM[t];
            c.sentence(2, "text " + t + " is of up to " + room + " bytes");
            WrackDeeds x = new WrackDeeds();
            for (int k = 1; k <= room; k++) c.due("type " + k, x.type(text, 'a'), k);
            c.sentence(2, "FULL: a byte more in text " + t);
            c.due("type", x.type(text, 'a'), FULL);
            c.refused("type", () -> filled(text), y -> y.type(text, 'a'), FULL, 0);
            c.sentence(2, "BAD ahead of FULL in text " + t);
            c.due("type(.., 256)", x.type(text, 256), BAD);
            c.due("type(.., -1)", x.type(text, -1), BAD);
            c.sentence(2, "a text that is full is no other one: " + t);
            for (int other = 0; other < 3; other++) if (other != t) c.due("type(" + other + ", ..)", x.type(other, 'a'), 1);
            c.sentence(2, "where one was undone there is room for one: " + t);
            x.undo(text);
            c.due("type", x.type(text, 'b'), room);
            c.due("type again", x.type(text, 'b'), FULL);
        }
    }

    private static void wipe() {
        c.sentence(3, "how many bytes it had: none, if it was empty");
        for (int t = 0; t < 3; t++) c.due("wipe(" + t + ")", new WrackDeeds().wipe(t), 0);
        for (int t = 0; t < 3; t++) {
            c.sentence(3, "how many bytes it had: all of a full text, " + t);
            WrackDeeds x = filled(t);
            c.due("wipe", x.wipe(t), ROOM[t]);
            c.due("bytes", x.count(2 + t), 0);
            c.due("fault", x.fault(t), NONE);
            c.due("wipe again", x.wipe(t), 0);
            c.due("there is room", x.type(t, 'a'), 1);
        }
        c.sentence(3, "a text is empty: that one alone");
        WrackDeeds x = made("5wab", "78", "a");
        c.due("wipe(1)", x.wipe(1), 2);
        c.due("tide(0)", x.tide(0), 5);
        c.due("count(2)", x.count(2), 4);
        c.due("count(4)", x.count(4), 1);
        c.due("wipe(2)", x.wipe(2), 1);
        c.due("route(0)", x.route(0), NONE);
        c.due("count(0)", x.count(0), 1);
        c.due("wipe(0)", x.wipe(0), 4);
        c.due("count(0) then", x.count(0), 0);
        c.sentence(3, "how many bytes it had: also with a FAULT");
        c.due("wipe(0)", made("5wx", "", "").wipe(0), 3);
        c.sentence(3, "events, what was seen and sheets stay when a text is wiped");
        WrackDeeds y = Cases.some();
        y.wipe(0);
        c.due("count(5)", y.count(5), 3);
        c.due("count(7)", y.count(7), 2);
        c.due("lose(2)", y.lose(2), 2);
        c.sentence(3, "BAD: no such text");
        c.bad("wipe(-1)", z -> z.wipe(-1));
        c.bad("wipe(3)", z -> z.wipe(3));
        c.bad("wipe(least)", z -> z.wipe(Cases.LEAST));
        c.bad("wipe(greatest)", z -> z.wipe(Cases.MOST));
    }

    private static void undo() {
        c.sentence(4, "NOT: it is empty");
        for (int t = 0; t < 3; t++) {
            int text = t;
            c.refused("undo(" + t + ")", WrackDeeds::new, x -> x.undo(text), NOT, 0);
        }
        c.sentence(4, "how many are left: 0 behind the last one, then NOT");
        WrackDeeds x = made("5wa", "7", "a");
        c.due("undo(1)", x.undo(1), 0);
        c.due("undo(1) again", x.undo(1), NOT);
        c.due("tide(0)", x.tide(0), 5);
        c.due("undo(2)", x.undo(2), 0);
        c.due("undo(2) again", x.undo(2), NOT);
        c.due("undo(0)", x.undo(0), 2);
        c.due("undo(0) again", x.undo(0), 1);
        c.due("undo(0) once more", x.undo(0), 0);
        c.due("undo(0) of none", x.undo(0), NOT);
        c.sentence(4, "NOT behind a wipe");
        WrackDeeds wiped = made("5wa", "", "");
        wiped.wipe(0);
        c.due("undo(0)", wiped.undo(0), NOT);
        c.sentence(4, "the last byte of a full text is undone");
        for (int t = 0; t < 3; t++) c.due("undo(" + t + ")", filled(t).undo(t), ROOM[t] - 1);
        c.sentence(4, "with the byte its FAULT is undone");
        WrackDeeds fault = made("5wax", "", "");
        c.due("fault(0)", fault.fault(0), 3);
        fault.undo(0);
        c.due("fault(0) then", fault.fault(0), NONE);
        c.due("count(0)", fault.count(0), 1);
        c.sentence(4, "BAD: no such text");
        c.bad("undo(-1)", y -> y.undo(-1));
        c.bad("undo(3)", y -> y.undo(3));
        c.bad("undo(least)", y -> y.undo(Cases.LEAST));
        c.bad("undo(greatest)", y -> y.undo(Cases.MOST));
    }

    private static void faultOf(int text, String all, int want) {
        WrackDeeds x = new WrackDeeds();
        Cases.typeAll(x, text, all);
        c.due("fault of \"" + all + "\"", x.fault(text), want);
    }

    private static void faultOfStrands() {
        c.sentence(5, "an empty one is well");
        for (int t = 0; t < 3; t++) faultOf(t, "", NONE);
        c.sentence(5, "a figure 0 to 9");
        faultOf(0, "0wa", NONE);
        faultOf(0, "9wa", NONE);
        faultOf(0, "/wa", 0);
        faultOf(0, ":wa", 0);
        faultOf(0, "wa", 0);
        faultOf(0, ";0wa", 0);
        faultOf(0, "\0wa", 0);
        faultOf(0, (char) 255 + "wa", 0);
        c.sentence(5, "w, k or d");
        faultOf(0, "0wa", NONE);
        faultOf(0, "0ka", NONE);
        faultOf(0, "0da", NONE);
        for (String kind : new String[] {"v", "x", "j", "l", "c", "e", "a", "W", "K", "D", "0", ";"}) faultOf(0, "0" + kind + "a", 1);
        c.sentence(5, "1 to 6 letters a to d: each of them");
        faultOf(0, "0wa", NONE);
        faultOf(0, "0wd", NONE);
        for (String letter : new String[] {"`", "e", "A", "D", "w", "k", "0"}) faultOf(0, "0w" + letter, 2);
        for (String letter : new String[] {"`", "e", "A", "D", "w", "k", "0"}) faultOf(0, "0wa" + letter, 3);
        c.sentence(5, "1 to 6 letters: one is enough");
        faultOf(0, "0wa;0wa", NONE);
        c.sentence(5, "1 to 6 letters: none is too few");
        faultOf(0, "0w;0wa", 2);
        faultOf(0, "0wa;0w;0wa", 6);
        c.sentence(5, "of one that is not ended, its end");
        faultOf(0, "0", 1);
        faultOf(0, "0w", 2);
        faultOf(0, "0wa;", 4);
        faultOf(0, "0wa;1", 5);
        faultOf(0, "0wa;1k", 6);
        c.sentence(5, "with ; between them: not two of them, not ahead");
        faultOf(0, "0wa;;0wa", 4);
        faultOf(0, ";", 0);
        faultOf(0, "0wa,0wa", 3);
        faultOf(0, "0wa:0wa", 3);
        faultOf(0, "0wa<0wa", 3);
        c.sentence(5, "the place of the first byte: not of a later one");
        faultOf(0, "0xe", 1);
        faultOf(0, "x;;", 0);
        faultOf(0, "0wae0wae", 3);
    }

    private static void faultOfTooMuch() {
        c.sentence(5, "1 to 6 letters: six are not too many");
        faultOf(0, "0wabcdab", NONE);
        faultOf(0, "0wabcdab;0wdddddd", NONE);
        c.sentence(5, "here also of a seventh BLADDER");
        faultOf(0, "0wabcdaba", 8);
        faultOf(0, "0wabcdabab", 8);
        faultOf(0, "0wabcdabx", 8);
        faultOf(0, "0wa;0wabcdabc;", 12);
        c.sentence(5, "8 at most");
        faultOf(0, Cases.EIGHT, NONE);
        faultOf(0, Cases.LONGEST, NONE);
        c.sentence(5, "here also of the first byte of a ninth");
        faultOf(0, Cases.EIGHT + ";5", 32);
        faultOf(0, Cases.EIGHT + ";5wa", 32);
        faultOf(0, Cases.EIGHT + ";x", 32);
        c.sentence(5, "of one that is not ended, its end: eight and a ; behind them");
        faultOf(0, Cases.EIGHT + ";", 32);
        c.sentence(5, "a FAULT in the last of 71 bytes");
        faultOf(0, Cases.LONGEST.substring(0, 70) + "e", 70);
        c.sentence(5, "of one that is not ended, its end: 71 bytes");
        faultOf(0, "0wabcdab;1wbcdabc;2wcdabcd;3wdabcda;4wabcdab;5wbcdabc;6wcdabcd;7wdabcd;", 71);
        c.sentence(5, "BAD: no such text");
        c.bad("fault(-1)", x -> x.fault(-1));
        c.bad("fault(3)", x -> x.fault(3));
        c.bad("fault(least)", x -> x.fault(Cases.LEAST));
        c.bad("fault(greatest)", x -> x.fault(Cases.MOST));
    }

    private static void faultOfTheOthers() {
        c.sentence(5, "TIDES are figures 0 to 9");
        faultOf(1, "0", NONE);
        faultOf(1, "9", NONE);
        faultOf(1, "/", 0);
        faultOf(1, ":", 0);
        faultOf(1, "12;", 2);
        faultOf(1, "1\0", 1);
        faultOf(1, "1" + (char) 255, 1);
        c.sentence(5, "TIDES: up to 20 figures");
        faultOf(1, "01234567899876543210", NONE);
        faultOf(1, "0123456789987654321a", 19);
        c.sentence(5, "TIDES: the place of the first byte");
        faultOf(1, "1a2b", 1);
        c.sentence(5, "THE ROUTE is letters a to h");
        faultOf(2, "a", NONE);
        faultOf(2, "h", NONE);
        faultOf(2, "`", 0);
        faultOf(2, "i", 0);
        faultOf(2, "A", 0);
        faultOf(2, "a\0", 1);
        faultOf(2, "a" + (char) 255, 1);
        c.sentence(5, "THE ROUTE: up to 8 letters, also like ones");
        faultOf(2, "hgfedcba", NONE);
        faultOf(2, "aaaaaaaa", NONE);
        faultOf(2, "aaaaaaai", 7);
        c.sentence(5, "THE ROUTE: the place of the first byte");
        faultOf(2, "aibi", 1);
        c.sentence(5, "the FAULT of a text is not one of another");
        WrackDeeds x = made("x", "12", "ab");
        c.due("fault(1)", x.fault(1), NONE);
        c.due("fault(2)", x.fault(2), NONE);
        c.due("tide(1)", x.tide(1), 2);
        c.due("route(1)", x.route(1), 1);
    }

    private static void withAFault() {
        c.sentence(6, "with a FAULT a text is as if it was empty: no STRANDS");
        WrackDeeds x = made("5wa;4wb;", "", "a");
        c.due("count(0)", x.count(0), 0);
        c.due("strand(0, 0)", x.strand(0, 0), BAD);
        c.due("forged()", x.forged(), 0);
        c.due("reads(8)", x.reads(8), 0);
        c.due("state(0, 0, 0)", x.state(0, 0, 0), BAD);
        c.due("its bytes stay", x.count(2), 8);
        c.sentence(6, "behind the end of a FAULT there are STRANDS again");
        Cases.typeAll(x, 0, "3wc");
        c.due("count(0)", x.count(0), 3);
        c.due("strand(2, 0)", x.strand(2, 0), 3);
        c.sentence(7, "with a FAULT a text is as if it was empty: 5 in each HOUR");
        WrackDeeds y = made("", "789x", "");
        for (int h = 0; h < 20; h++) c.due("tide(" + h + ")", y.tide(h), 5);
        c.due("its bytes stay", y.count(3), 4);
        y.undo(1);
        c.due("tide(2) without it", y.tide(2), 9);
        c.sentence(8, "with a FAULT a text is as if it was empty: NONE");
        WrackDeeds z = made("5wa", "", "aai");
        for (int i = 0; i < 8; i++) c.due("route(" + i + ")", z.route(i), NONE);
        c.due("count(1)", z.count(1), 0);
        c.due("reads(8)", z.reads(8), 0);
        c.due("its bytes stay", z.count(4), 3);
        z.undo(2);
        c.due("route(1) without it", z.route(1), 0);
        c.due("reads(8) without it", z.reads(8), 2);
    }

    private static void strand() {
        c.sentence(6, "how HIGH: 0 and 9");
        WrackDeeds x = made("0wa;9ka", "", "");
        c.due("strand(0, 0)", x.strand(0, 0), 0);
        c.due("strand(1, 0)", x.strand(1, 0), 9);
        c.sentence(6, "its kind: 0 w, 1 k, 2 d");
        WrackDeeds kinds = made("0wa;0ka;0da", "", "");
        for (int s = 0; s < 3; s++) c.due("strand(" + s + ", 1)", kinds.strand(s, 1), s);
        c.sentence(6, "how many BLADDERS: 1 and 6");
        WrackDeeds long_ = made("0wd;0wabcdab", "", "");
        c.due("strand(0, 2)", long_.strand(0, 2), 1);
        c.due("strand(1, 2)", long_.strand(1, 2), 6);
        c.sentence(6, "these (3 to 8): all six");
        for (int i = 0; i < 6; i++) c.due("strand(1, " + (3 + i) + ")", long_.strand(1, 3 + i), i % 4);
        c.sentence(6, "NONE: not so many");
        c.due("strand(0, 3)", long_.strand(0, 3), 3);
        for (int what = 4; what <= 8; what++) c.due("strand(0, " + what + ")", long_.strand(0, what), NONE);
        c.due("of five the sixth", made("0wabcda", "", "").strand(0, 8), NONE);
        c.sentence(6, "the eighth of eight (0 on)");
        WrackDeeds eight = made(Cases.LONGEST, "", "");
        c.due("strand(7, 0)", eight.strand(7, 0), 7);
        c.due("strand(7, 2)", eight.strand(7, 2), 6);
        c.due("strand(7, 8)", eight.strand(7, 8), 0);
        c.due("strand(8, 0)", eight.strand(8, 0), BAD);
        c.sentence(6, "BAD: no such STRAND");
        c.bad("strand(-1, 0)", y -> y.strand(-1, 0));
        c.bad("strand(3, 0)", y -> y.strand(3, 0));
        c.bad("strand(7, 0)", y -> y.strand(7, 0));
        c.bad("strand(8, 0)", y -> y.strand(8, 0));
        c.bad("strand(least, 0)", y -> y.strand(Cases.LEAST, 0));
        c.bad("strand(greatest, 0)", y -> y.strand(Cases.MOST, 0));
        c.refused("strand(0, 0) of none", WrackDeeds::new, y -> y.strand(0, 0), BAD, 0);
        c.sentence(6, "BAD: what below 0, above 8");
        c.bad("strand(0, -1)", y -> y.strand(0, -1));
        c.bad("strand(0, 9)", y -> y.strand(0, 9));
        c.bad("strand(0, least)", y -> y.strand(0, Cases.LEAST));
        c.bad("strand(0, greatest)", y -> y.strand(0, Cases.MOST));
        c.sentence(6, "fewer than before: no such STRAND, no such BLADDER");
        WrackDeeds less = made("5wabc;4wab", "", "");
        c.due("strand(1, 4)", less.strand(1, 4), 1);
        less.undo(0);
        c.due("strand(1, 4) then", less.strand(1, 4), NONE);
        less.wipe(0);
        Cases.typeAll(less, 0, "3kd");
        c.due("strand(0, 4)", less.strand(0, 4), NONE);
        c.due("strand(1, 0)", less.strand(1, 0), BAD);
    }

    private static void tide() {
        c.sentence(7, "5 on later ones");
        WrackDeeds one = made("", "8", "");
        c.due("tide(0)", one.tide(0), 8);
        for (int h = 1; h < 20; h++) c.due("tide(" + h + ")", one.tide(h), 5);
        c.sentence(7, "one for each HOUR: 20 of them");
        WrackDeeds all = made("", "01234567899876543210", "");
        for (int h = 0; h < 20; h++) c.due("tide(" + h + ")", all.tide(h), h < 10 ? h : 19 - h);
        c.sentence(7, "without the twentieth 5 in HOUR 19");
        all.undo(1);
        c.due("tide(18)", all.tide(18), 1);
        c.due("tide(19)", all.tide(19), 5);
        c.sentence(7, "BAD: HOUR below 0");
        c.bad("tide(-1)", x -> x.tide(-1));
        c.bad("tide(least)", x -> x.tide(Cases.LEAST));
        c.sentence(7, "BAD: HOUR above 19");
        c.bad("tide(20)", x -> x.tide(20));
        c.bad("tide(greatest)", x -> x.tide(Cases.MOST));
    }

    private static void route() {
        c.sentence(8, "NONE: not so long");
        WrackDeeds two = made("", "", "ha");
        c.due("route(0)", two.route(0), 7);
        c.due("route(1)", two.route(1), 0);
        for (int i = 2; i < 8; i++) c.due("route(" + i + ")", two.route(i), NONE);
        c.sentence(8, "of eight the eighth");
        WrackDeeds all = made("", "", "abcdefgh");
        for (int i = 0; i < 8; i++) c.due("route(" + i + ")", all.route(i), i);
        c.sentence(8, "BAD: i below 0");
        c.bad("route(-1)", x -> x.route(-1));
        c.bad("route(least)", x -> x.route(Cases.LEAST));
        c.sentence(8, "BAD: i above 7");
        c.bad("route(8)", x -> x.route(8));
        c.bad("route(greatest)", x -> x.route(Cases.MOST));
        c.due("also where it is full", all.route(8), BAD);
    }
}
