/** Promises 12 to 18: each sentence that names a boundary case. */
public final class HourBoundsTest {
    private static final int NONE = Cases.NONE, BAD = Cases.BAD;
    private static final int DRY = 0, LEGIBLE = 1, UNDER = 2, EATEN = 3, RED = 4;
    /** Each hangs on the next one, and the last on the one ahead of it. */
    private static final String CHAIN = "1waa;1wab;1wbb;1wbc;1wcc;1wcd;1wdd;1wdd";
    private static final Cases c = new Cases(12, 18);

    public static void main(String[] args) {
        stateByTide();
        stateByKind();
        stateOfTheEaten();
        stateHigh();
        stateIsBad();
        says();
        deedLegible();
        deedOn();
        voids();
        voidsInChains();
        forged();
        tangled();
        readsIsBad();
        readsFirst();
        readsOnTheWay();
        readsNoMore();
        c.end();
    }

    private static WrackDeeds made(String strands, String tides, String route) { return Cases.made(strands, tides, route); }

    /** What a strand is in an hour, if the tide is the same in all of them. */
    private static void stateOf(String strand, int tide, int hour, int want) {
        WrackDeeds x = made(strand, Cases.times("" + tide, 20), "");
        c.due(strand + " by tide " + tide + " in hour " + hour, x.state(hour, 0, 0), want);
    }

    private static void stateByTide() {
        c.sentence(12, "below 0: DRY");
        stateOf("5wa", 4, 0, DRY);
        stateOf("9wa", 0, 0, DRY);
        stateOf("5ka", 4, 0, DRY);
        stateOf("5da", 4, 19, DRY);
        c.sentence(12, "just so HIGH is not below 0");
        stateOf("5wa", 5, 0, LEGIBLE);
        stateOf("0wa", 0, 0, LEGIBLE);
        stateOf("9wa", 9, 0, LEGIBLE);
        stateOf("5ka", 5, 0, LEGIBLE);
        c.sentence(12, "above 2: UNDER");
        stateOf("5wa", 8, 0, UNDER);
        stateOf("0wa", 9, 0, UNDER);
        stateOf("5da", 8, 19, UNDER);
        c.sentence(12, "2 is not above 2");
        stateOf("5wa", 7, 0, LEGIBLE);
        stateOf("5da", 7, 19, LEGIBLE);
        c.sentence(12, "of kelp above 4: UNDER");
        stateOf("4ka", 9, 0, UNDER);
        stateOf("0ka", 9, 0, UNDER);
        c.sentence(12, "of kelp 3 and 4 are not above 4");
        stateOf("5ka", 8, 0, LEGIBLE);
        stateOf("5ka", 9, 0, LEGIBLE);
    }

    private static void stateByKind() {
        c.sentence(12, "dulse in HOURS 0 to 9: RED");
        stateOf("5da", 5, 0, RED);
        stateOf("5da", 5, 9, RED);
        stateOf("5da", 7, 9, RED);
        c.sentence(12, "dulse in HOURS 10 to 19 is LEGIBLE");
        stateOf("5da", 5, 10, LEGIBLE);
        stateOf("5da", 5, 19, LEGIBLE);
        c.sentence(12, "dulse that is DRY or UNDER is not RED");
        stateOf("5da", 4, 0, DRY);
        stateOf("5da", 4, 9, DRY);
        stateOf("5da", 8, 0, UNDER);
        stateOf("5da", 8, 9, UNDER);
        c.sentence(12, "wrack and kelp are never RED");
        for (int h = 0; h < 20; h++) {
            stateOf("5wa", 5, h, LEGIBLE);
            stateOf("5ka", 5, h, LEGIBLE);
        }
    }

    private static void stateOfTheEaten() {
        c.sentence(12, "one that is EATEN: 3, be it DRY, LEGIBLE, UNDER or RED");
        for (String strand : new String[] {"9wa", "5wa", "0wa", "5da"}) {
            WrackDeeds x = made(strand, "", "");
            x.event(1, 5, 0, 0);
            c.due(strand + " in hour 5", x.state(5, 0, 0), EATEN);
            c.due(strand + " in hour 19", x.state(19, 0, 0), EATEN);
            c.due(strand + " in hour 4", x.state(4, 0, 0), made(strand, "", "").state(4, 0, 0));
        }
        c.sentence(12, "EATEN in HOUR 0: in all");
        WrackDeeds x = made("5wa;5wa", "", "");
        x.event(1, 0, 1, 0);
        for (int h = 0; h < 20; h++) c.due("hour " + h, x.state(h, 1, 0), EATEN);
        c.due("the other one", x.state(0, 0, 0), LEGIBLE);
        c.sentence(12, "EATEN in HOUR 19: in that");
        WrackDeeds y = made("5wa", "", "");
        y.event(1, 19, 0, 0);
        c.due("hour 18", y.state(18, 0, 0), LEGIBLE);
        c.due("hour 19", y.state(19, 0, 0), EATEN);
    }

    private static void stateHigh() {
        c.sentence(12, "how HIGH: a STORM to 0 and to 9");
        WrackDeeds x = made("5wa;5wa", "", "");
        x.event(2, 3, 0, 0);
        x.event(2, 8, 0, 9);
        c.due("as told", x.state(2, 0, 1), 5);
        c.due("in hour 3", x.state(3, 0, 1), 0);
        c.due("then it is", x.state(3, 0, 0), UNDER);
        c.due("in hour 7", x.state(7, 0, 1), 0);
        c.due("in hour 8", x.state(8, 0, 1), 9);
        c.due("then it is", x.state(8, 0, 0), DRY);
        c.due("in hour 19", x.state(19, 0, 1), 9);
        c.due("the other one", x.state(19, 1, 1), 5);
        c.sentence(12, "how HIGH: also of one that is EATEN");
        WrackDeeds y = made("5wa", "", "");
        y.event(1, 2, 0, 9);
        c.due("as told", y.state(2, 0, 1), 5);
        y.event(2, 4, 0, 8);
        c.due("by a storm", y.state(4, 0, 1), 8);
        c.sentence(12, "how HIGH: a POP does nothing to it");
        WrackDeeds z = made("5wa", "", "");
        z.event(0, 0, 0, 0);
        c.due("high", z.state(0, 0, 1), 5);
        c.due("it is", z.state(0, 0, 0), LEGIBLE);
    }

    private static void stateIsBad() {
        c.sentence(12, "BAD: HOUR below 0, above 19");
        c.bad("state(-1, 0, 0)", x -> x.state(-1, 0, 0));
        c.bad("state(20, 0, 0)", x -> x.state(20, 0, 0));
        c.bad("state(least, 0, 0)", x -> x.state(Cases.LEAST, 0, 0));
        c.bad("state(greatest, 0, 0)", x -> x.state(Cases.MOST, 0, 0));
        c.sentence(12, "BAD: no such STRAND");
        c.bad("state(0, -1, 0)", x -> x.state(0, -1, 0));
        c.bad("state(0, 3, 0)", x -> x.state(0, 3, 0));
        c.bad("state(0, 8, 1)", x -> x.state(0, 8, 1));
        c.bad("state(0, least, 0)", x -> x.state(0, Cases.LEAST, 0));
        c.bad("state(0, greatest, 0)", x -> x.state(0, Cases.MOST, 0));
        c.refused("state(0, 0, 0) of none", WrackDeeds::new, x -> x.state(0, 0, 0), BAD, 0);
        c.sentence(12, "BAD: what below 0, above 1");
        c.bad("state(0, 0, -1)", x -> x.state(0, 0, -1));
        c.bad("state(0, 0, 2)", x -> x.state(0, 0, 2));
        c.bad("state(0, 0, least)", x -> x.state(0, 0, Cases.LEAST));
        c.bad("state(0, 0, greatest)", x -> x.state(0, 0, Cases.MOST));
    }

    private static void says() {
        c.sentence(13, "0 to 3: the first and the sixth");
        WrackDeeds x = made("5wabcdad;5wc", "", "");
        c.due("first", x.says(0, 0, 0), 0);
        c.due("sixth", x.says(19, 0, 5), 3);
        c.sentence(13, "NONE: not so many");
        c.due("says(0, 1, 0)", x.says(0, 1, 0), 2);
        for (int i = 1; i < 6; i++) c.due("says(0, 1, " + i + ")", x.says(0, 1, i), NONE);
        c.sentence(13, "4: POPPED, from its HOUR on, that BLADDER of that STRAND");
        x.event(0, 7, 0, 5);
        c.due("in 6", x.says(6, 0, 5), 3);
        c.due("in 7", x.says(7, 0, 5), 4);
        c.due("in 19", x.says(19, 0, 5), 4);
        c.due("another", x.says(19, 0, 4), 0);
        c.due("of another", x.says(19, 1, 0), 2);
        c.sentence(13, "4: the STRAND is EATEN, all of it");
        x.event(1, 9, 1, 0);
        c.due("in 8", x.says(8, 1, 0), 2);
        c.due("in 9", x.says(9, 1, 0), 4);
        c.sentence(13, "NONE: not so many, also of one that is EATEN");
        c.due("in 9", x.says(9, 1, 1), NONE);
        c.sentence(13, "POPPED twice is POPPED");
        x.event(0, 8, 0, 5);
        c.due("in 8", x.says(8, 0, 5), 4);
        c.sentence(13, "BAD: HOUR below 0, above 19");
        c.bad("says(-1, 0, 0)", y -> y.says(-1, 0, 0));
        c.bad("says(20, 0, 0)", y -> y.says(20, 0, 0));
        c.bad("says(least, 0, 0)", y -> y.says(Cases.LEAST, 0, 0));
        c.bad("says(greatest, 0, 0)", y -> y.says(Cases.MOST, 0, 0));
        c.sentence(13, "BAD: no such STRAND");
        c.bad("says(0, -1, 0)", y -> y.says(0, -1, 0));
        c.bad("says(0, 3, 0)", y -> y.says(0, 3, 0));
        c.bad("says(0, least, 0)", y -> y.says(0, Cases.LEAST, 0));
        c.bad("says(0, greatest, 0)", y -> y.says(0, Cases.MOST, 0));
        c.sentence(13, "BAD: i below 0, above 5");
        c.bad("says(0, 0, -1)", y -> y.says(0, 0, -1));
        c.bad("says(0, 0, 6)", y -> y.says(0, 0, 6));
        c.bad("says(0, 0, least)", y -> y.says(0, 0, Cases.LEAST));
        c.bad("says(0, 0, greatest)", y -> y.says(0, 0, Cases.MOST));
    }

    private static void deedLegible() {
        c.sentence(14, "LEGIBLE in all HOURS");
        c.due("deed(0, 0)", made("5wa", "", "").deed(0, 0), 20);
        c.sentence(14, "LEGIBLE in none");
        c.due("dry", made("9wa", "", "").deed(0, 0), 0);
        c.due("under", made("0wa", "", "").deed(0, 0), 0);
        c.sentence(14, "RED is not LEGIBLE");
        c.due("deed(0, 0)", made("5da", "", "").deed(0, 0), 10);
        c.sentence(14, "LEGIBLE in HOUR 0, in HOUR 19");
        c.due("hour 0", made("9wa", "9", "").deed(0, 0), 1);
        c.due("hour 19", made("9wa", Cases.times("5", 19) + "9", "").deed(0, 0), 1);
        c.sentence(14, "EATEN is not LEGIBLE");
        WrackDeeds x = made("5wa", "", "");
        x.event(1, 19, 0, 0);
        c.due("eaten in 19", x.deed(0, 0), 19);
        x.event(1, 0, 0, 0);
        c.due("eaten in 0", x.deed(0, 0), 0);
        c.sentence(14, "BAD: no such STRAND");
        c.bad("deed(-1, 0)", y -> y.deed(-1, 0));
        c.bad("deed(3, 0)", y -> y.deed(3, 0));
        c.bad("deed(3, 1)", y -> y.deed(3, 1));
        c.bad("deed(least, 0)", y -> y.deed(Cases.LEAST, 0));
        c.bad("deed(greatest, 0)", y -> y.deed(Cases.MOST, 0));
        c.refused("deed(0, 1) of none", WrackDeeds::new, y -> y.deed(0, 1), BAD, 0);
        c.sentence(14, "BAD: what below 0, above 1");
        c.bad("deed(0, -1)", y -> y.deed(0, -1));
        c.bad("deed(0, 2)", y -> y.deed(0, 2));
        c.bad("deed(0, least)", y -> y.deed(0, Cases.LEAST));
        c.bad("deed(0, greatest)", y -> y.deed(0, Cases.MOST));
    }

    private static void deedOn() {
        c.sentence(14, "NONE: it is an ORIGINAL");
        c.due("no one begins so", made("1wab;1wac", "", "").deed(0, 1), NONE);
        c.sentence(14, "another one: not itself");
        c.due("alone", made("1waa", "", "").deed(0, 1), NONE);
        c.due("of one bladder, alone", made("1wa", "", "").deed(0, 1), NONE);
        c.due("the next one", made("1waa;1wab", "", "").deed(0, 1), 1);
        c.sentence(14, "the least other one");
        WrackDeeds least = made("1wca;1wab;1wac;1wba", "", "");
        c.due("0", least.deed(0, 1), 1);
        c.due("3", least.deed(3, 1), 1);
        c.sentence(14, "it HANGS on 0, on 7");
        WrackDeeds far = made("1wab;1waa;1waa;1waa;1waa;1waa;1waa;1wba", "", "");
        c.due("0 on 7", far.deed(0, 1), 7);
        c.due("7 on 0", far.deed(7, 1), 0);
        c.sentence(14, "the last BLADDER of one that has one is its first");
        WrackDeeds one = made("1wa;1wa", "", "");
        c.due("0", one.deed(0, 1), 1);
        c.due("1", one.deed(1, 1), 0);
        c.sentence(14, "the last of six BLADDERS");
        c.due("0", made("1waaaaab;1wa;1wb", "", "").deed(0, 1), 2);
        c.sentence(14, "as told, POPPED or not, EATEN or not");
        WrackDeeds x = made("1wab;1wbc", "", "");
        x.event(0, 0, 0, 1);
        x.event(0, 0, 1, 0);
        x.event(1, 0, 1, 0);
        c.due("deed(0, 1)", x.deed(0, 1), 1);
        c.sentence(14, "of eight in a chain");
        WrackDeeds chain = made(CHAIN, "", "");
        for (int s = 0; s < 7; s++) c.due("deed(" + s + ", 1)", chain.deed(s, 1), s + 1);
        c.due("deed(7, 1)", chain.deed(7, 1), 6);
    }

    private static void voids() {
        c.sentence(15, "no STRANDS: none");
        WrackDeeds none = new WrackDeeds();
        none.event(1, 0, 0, 0);
        c.due("voids(0)", none.voids(0), 0);
        c.due("voids(19)", none.voids(19), 0);
        c.sentence(15, "behind an HOUR: in that of the HERON too");
        WrackDeeds x = made("5wa", "", "");
        x.event(1, 6, 0, 0);
        c.due("voids(5)", x.voids(5), 0);
        c.due("voids(6)", x.voids(6), 1);
        c.due("voids(7)", x.voids(7), 1);
        c.sentence(15, "behind HOUR 0");
        WrackDeeds first = made("5wa", "", "");
        first.event(1, 0, 0, 0);
        c.due("voids(0)", first.voids(0), 1);
        c.sentence(15, "behind HOUR 19");
        WrackDeeds last = made("5wa", "", "");
        last.event(1, 19, 0, 0);
        c.due("voids(18)", last.voids(18), 0);
        c.due("voids(19)", last.voids(19), 1);
        c.sentence(15, "POPS and STORMS make none VOID");
        WrackDeeds other = made("5wa", "", "");
        other.event(0, 0, 0, 0);
        other.event(2, 0, 0, 9);
        c.due("voids(19)", other.voids(19), 0);
        c.sentence(15, "BAD: HOUR below 0, above 19");
        c.bad("voids(-1)", y -> y.voids(-1));
        c.bad("voids(20)", y -> y.voids(20));
        c.bad("voids(least)", y -> y.voids(Cases.LEAST));
        c.bad("voids(greatest)", y -> y.voids(Cases.MOST));
    }

    private static void voidsBy(String strands, int eaten, int want) {
        WrackDeeds x = made(strands, "", "");
        x.event(1, 4, eaten, 0);
        c.due("of " + strands + " by " + eaten, x.voids(4), want);
        c.due("ahead of it", x.voids(3), 0);
    }

    private static void voidsInChains() {
        c.sentence(15, "it HANGS on one that is VOID: all of a chain of eight");
        voidsBy(CHAIN, 7, 255);
        voidsBy(CHAIN, 6, 255);
        voidsBy(CHAIN, 5, 0b111111);
        c.sentence(15, "what it HANGS on is not VOID by it");
        voidsBy(CHAIN, 0, 1);
        voidsBy("1wab;1wbc", 0, 1);
        c.sentence(15, "two that HANG on each other");
        voidsBy("1wab;1wba", 0, 3);
        voidsBy("1wab;1wba", 1, 3);
        c.sentence(15, "a ring of which none is EATEN is not VOID");
        voidsBy("1wab;1wba;1wcc", 2, 4);
        c.sentence(15, "a ring, and what HANGS on it");
        voidsBy("1wab;1wbc;1wca;1wda", 1, 15);
        c.sentence(15, "all eight of their own, as bits");
        WrackDeeds x = made("1wab;1wab;1wab;1wab;1wab;1wab;1wab;1wab", "", "");
        for (int s = 0; s < 8; s++) {
            x.event(1, s, s, 0);
            c.due("voids(" + s + ")", x.voids(s), (2 << s) - 1);
        }
    }

    private static void forged() {
        c.sentence(16, "no STRANDS: none");
        c.due("forged()", new WrackDeeds().forged(), 0);
        c.sentence(16, "an even number of BLADDERS: 2, 4, 6");
        c.due("aa, aabb, aabbcc", made("1waa;1waabb;1waabbcc", "", "").forged(), 7);
        c.sentence(16, "not an odd one: 1, 3, 5");
        c.due("a, aaa, aabba, aabbb", made("1wa;1waaa;1waabba;1waabbb", "", "").forged(), 0);
        c.sentence(16, "0 on, 2 on, 4 on, each is like the next one: not one that fails");
        c.due("the first two", made("1wab;1wabcc;1wabccdd", "", "").forged(), 0);
        c.due("the second two", made("1waabc;1waabcdd", "", "").forged(), 0);
        c.due("the third two", made("1waabbcd", "", "").forged(), 0);
        c.sentence(16, "not in twos from 1 on");
        c.due("abba, abbcca", made("1wabba;1wabbcca", "", "").forged(), 0);
        c.sentence(16, "all alike are in twos");
        c.due("aaaa, dddddd", made("1waaaa;1wdddddd", "", "").forged(), 3);
        c.sentence(16, "the eighth, as a bit");
        c.due("forged()", made("1wa;1wa;1wa;1wa;1wa;1wa;1wa;1waa", "", "").forged(), 128);
        c.sentence(16, "of fewer BLADDERS, of fewer STRANDS than before");
        WrackDeeds less = made("1wab;1waabc", "", "");
        c.due("ab, aabc", less.forged(), 0);
        less.undo(0);
        less.undo(0);
        c.due("ab, aa", less.forged(), 2);
        for (int k = 0; k < 5; k++) less.undo(0);
        c.due("ab", less.forged(), 0);
        c.sentence(16, "as told: POPPED, EATEN or not");
        WrackDeeds x = made("1waa", "", "");
        x.event(0, 0, 0, 0);
        x.event(1, 0, 0, 0);
        c.due("forged()", x.forged(), 1);
    }

    private static void tangledOf(String strands, int pairs, int longest) {
        WrackDeeds x = made(strands, "", "");
        c.due("how many of " + strands, x.tangled(0), pairs);
        c.due("how long of " + strands, x.tangled(1), longest);
    }

    private static void tangled() {
        c.sentence(17, "0: there is none, of no STRANDS, of one");
        tangledOf("", 0, 0);
        tangledOf("1wabab", 0, 0);
        c.sentence(17, "two BLADDERS are enough");
        tangledOf("1wab;1wab", 1, 2);
        c.sentence(17, "one is not");
        tangledOf("1wa;1wa", 0, 0);
        tangledOf("1wab;1wbc", 0, 0);
        tangledOf("1wacad;1wabab", 0, 0);
        c.sentence(17, "six are the longest");
        tangledOf("1wabcdab;1wabcdab", 1, 6);
        c.sentence(17, "in one: at its beginning in one, at its end in the other");
        tangledOf("1wabcd;1wddab", 1, 2);
        tangledOf("1wddab;1wabcd", 1, 2);
        c.sentence(17, "in one: not two apart");
        tangledOf("1wabc;1wadc", 0, 0);
        c.sentence(17, "alike in their order: not backward");
        tangledOf("1wab;1wba", 0, 0);
        c.sentence(17, "the longest run of any pair");
        tangledOf("1wab;1wabc;1wabcd", 3, 3);
        tangledOf("1wabcd;1wabcd;1wcd", 3, 4);
        c.sentence(17, "pairs of eight: 28");
        tangledOf("1wab;1wab;1wab;1wab;1wab;1wab;1wab;1wab", 28, 2);
        c.sentence(17, "as told: POPPED, EATEN or not");
        WrackDeeds x = made("1wab;1wab", "", "");
        x.event(0, 0, 0, 0);
        x.event(1, 0, 1, 0);
        c.due("tangled(0)", x.tangled(0), 1);
        c.due("tangled(1)", x.tangled(1), 2);
        c.sentence(17, "BAD: what below 0, above 1");
        c.bad("tangled(-1)", y -> y.tangled(-1));
        c.bad("tangled(2)", y -> y.tangled(2));
        c.bad("tangled(least)", y -> y.tangled(Cases.LEAST));
        c.bad("tangled(greatest)", y -> y.tangled(Cases.MOST));
    }

    private static void readsIsBad() {
        c.sentence(18, "BAD: i below 0, above 8");
        c.bad("reads(-1)", x -> x.reads(-1));
        c.bad("reads(9)", x -> x.reads(9));
        c.bad("reads(least)", x -> x.reads(Cases.LEAST));
        c.bad("reads(greatest)", x -> x.reads(Cases.MOST));
        c.sentence(18, "an empty ROUTE: NONE, 0");
        WrackDeeds x = made("5wa", "", "");
        for (int i = 0; i < 8; i++) c.due("reads(" + i + ")", x.reads(i), NONE);
        c.due("reads(8)", x.reads(8), 0);
        c.sentence(18, "a ROUTE of eight, also of like STRANDS");
        WrackDeeds y = made("5wa", "", "aaaaaaaa");
        for (int i = 0; i < 8; i++) c.due("reads(" + i + ")", y.reads(i), i);
        c.due("reads(8)", y.reads(8), 8);
    }

    /** The hours in which a route reads what, NONE behind them. */
    private static void readsOf(WrackDeeds x, int... hours) {
        for (int i = 0; i < 8; i++) c.due("reads(" + i + ")", x.reads(i), i < hours.length ? hours[i] : NONE);
        c.due("reads(8)", x.reads(8), hours.length);
        c.due("count(6)", x.count(6), hours.length);
    }

    private static WrackDeeds with(WrackDeeds x, int kind, int hour, int strand, int number) {
        x.event(kind, hour, strand, number);
        return x;
    }

    private static void readsFirst() {
        c.sentence(18, "he begins in HOUR 0, as HIGH as the first is: there at once, be it 0 or 9");
        readsOf(made("0wa", "0", "a"), 0);
        readsOf(made("9wa", "9", "a"), 0);
        c.sentence(18, "as HIGH as the first STRAND is then: behind a STORM of HOUR 0");
        readsOf(with(made("9wa", "", "a"), 2, 0, 0, 5), 0);
        c.sentence(18, "he waits for the first HOUR in which it is LEGIBLE: 19");
        readsOf(made("9wa", Cases.times("0", 19) + "9", "a"), 19);
        c.sentence(18, "and just so HIGH: LEGIBLE at another height is not enough");
        readsOf(with(made("9wa", "", "a"), 2, 1, 0, 5));
        c.sentence(18, "RED, UNDER, EATEN are not LEGIBLE");
        readsOf(made("5da", "", "a"), 10);
        readsOf(made("3wa", "65", "a"), 1);
        readsOf(with(made("5wa", "", "a"), 1, 0, 0, 0));
        readsOf(with(made("5wa", "4", "a"), 1, 1, 0, 0));
        c.sentence(18, "no such STRAND: he READS no more, nor the first");
        readsOf(made("", "", "a"));
        readsOf(made("5wa", "", "ba"));
        readsOf(made("5wa", "", "aba"), 0);
        readsOf(made(Cases.EIGHT, "", "h"), 0);
    }

    private static void readsOnTheWay() {
        c.sentence(18, "that takes as many HOURS as he is above or below: none, nine");
        readsOf(made("5wa;5wb", "", "ab"), 0, 1);
        readsOf(made("0wa;9wb", "0" + Cases.times("9", 19), "ab"), 0, 10);
        readsOf(made("0wa;9wb", "9" + Cases.times("0", 19), "ba"), 0, 10);
        c.sentence(18, "how HIGH it is in the HOUR in which he sets out: a STORM of that HOUR counts");
        readsOf(with(made("5wa;5wb", "", "ab"), 2, 1, 1, 3), 0, 3);
        c.sentence(18, "how HIGH it is in the HOUR in which he sets out: a later STORM does not");
        readsOf(with(made("5wa;5wb", "", "ab"), 2, 2, 1, 3), 0, 1);
        readsOf(with(made("5wa;3wb", "", "ab"), 2, 3, 1, 4), 0);
        c.sentence(18, "then he is so HIGH: also where the STRAND behind him goes off");
        readsOf(with(made("5wa;5wb", "", "ab"), 2, 1, 0, 3), 0, 1);
        c.sentence(18, "then he is so HIGH: as the STRAND was when he came, not as told");
        readsOf(with(made("5wa;5wb;3wc", "", "abc"), 2, 1, 1, 3), 0, 3, 4);
        c.sentence(18, "he waits until it is just so HIGH again");
        WrackDeeds again = with(made("5wa;3wb", "", "ab"), 2, 2, 1, 4);
        again.event(2, 17, 1, 3);
        readsOf(again, 0, 17);
        c.sentence(18, "sets out for the next one in the HOUR behind that: for the same one too");
        readsOf(made("5wa", "5665", "aa"), 0, 1);
        c.sentence(18, "EATEN on the way");
        readsOf(with(made("5wa;3wb", "", "ab"), 1, 3, 1, 0), 0);
        readsOf(with(made("5wa;3wb", "", "ab"), 1, 4, 1, 0), 0, 3);
    }

    private static void readsNoMore() {
        c.sentence(18, "READ in HOUR 19, none in the HOUR behind that");
        readsOf(made("9wa", Cases.times("0", 19) + "9", "aa"), 19);
        c.sentence(18, "READ in HOUR 18, then in HOUR 19");
        readsOf(made("9wa", Cases.times("0", 18) + "99", "aaa"), 18, 19);
        c.sentence(18, "he comes in HOUR 19: just in time");
        readsOf(made("0wa;9wb", Cases.times("9", 9) + "0" + Cases.times("9", 10), "ab"), 9, 19);
        c.sentence(18, "he would come in HOUR 20: none");
        readsOf(made("0wa;9wb", Cases.times("9", 10) + "0" + Cases.times("9", 9), "ab"), 10);
        c.sentence(18, "if there is none he READS no more, nor those that he might");
        readsOf(made("5wa;9wb", "", "aba"), 0);
    }
}
