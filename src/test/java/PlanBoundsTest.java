/** Promises 19 to 22: each sentence that names a boundary case. */
public final class PlanBoundsTest {
    private static final int NONE = Cases.NONE, BAD = Cases.BAD;
    /** Each hangs on the next one, and the last on the one ahead of it. */
    private static final String CHAIN = "1waa;1wab;1wbb;1wbc;1wcc;1wcd;1wdd;1wdd";
    private static final Cases c = new Cases(19, 22);

    public static void main(String[] args) {
        tourIsBad();
        tourOfFewAndMany();
        tourOfLikeOnes();
        tourOnTheWay();
        hangIsBad();
        hang();
        saveIsBad();
        saveNothing();
        saveByOneOrTwo();
        fillIsBad();
        fillNothing();
        fillWays();
        c.end();
    }

    private static WrackDeeds made(String strands, String tides, String route) { return Cases.made(strands, tides, route); }

    private static WrackDeeds with(WrackDeeds x, int kind, int hour, int strand, int number) {
        x.event(kind, hour, strand, number);
        return x;
    }

    private static void tourIsBad() {
        c.sentence(19, "BAD: what below 0, above 9");
        c.bad("tour(-1)", x -> x.tour(-1));
        c.bad("tour(10)", x -> x.tour(10));
        c.bad("tour(least)", x -> x.tour(Cases.LEAST));
        c.bad("tour(greatest)", x -> x.tour(Cases.MOST));
    }

    private static void tourOf(WrackDeeds x, int hour, int... row) {
        c.due("tour(0)", x.tour(0), row.length);
        c.due("tour(1)", x.tour(1), hour);
        for (int i = 0; i < 8; i++) c.due("tour(" + (2 + i) + ")", x.tour(2 + i), i < row.length ? row[i] : NONE);
    }

    private static void tourOfFewAndMany() {
        c.sentence(19, "NONE: none, of no STRANDS");
        tourOf(new WrackDeeds(), NONE);
        c.sentence(19, "NONE: none, of STRANDS that are never LEGIBLE");
        tourOf(made("9wa;0wb", "", "ab"), NONE);
        c.sentence(19, "NONE: none, of STRANDS that are EATEN in HOUR 0");
        tourOf(with(made("5wa", "", "a"), 1, 0, 0, 0), NONE);
        c.sentence(19, "one, in HOUR 0");
        tourOf(made("5wa", "", ""), 0, 0);
        c.sentence(19, "he begins in HOUR 0, as HIGH as the first STRAND is then: no later STORM counts");
        tourOf(with(made("5wa", "", ""), 2, 1, 0, 4), 0, 0);
        c.sentence(19, "one, in HOUR 19");
        tourOf(made("9wa", Cases.times("0", 19) + "9", ""), 19, 0);
        c.sentence(19, "two, in HOURS 18 and 19, of three");
        tourOf(made("9wa;9wb;9wc", Cases.times("0", 18) + "99", ""), 19, 0, 1);
        c.sentence(19, "of unlike STRANDS: one is not READ twice, whatever THE ROUTE does");
        tourOf(made("5wa", "", "aaa"), 0, 0);
        c.sentence(19, "all eight");
        tourOf(made(Cases.EIGHT, "", ""), 7, 0, 1, 2, 3, 4, 5, 6, 7);
        c.sentence(19, "READ to the end: not one that is never LEGIBLE");
        tourOf(made("9wa;5wb;9wc", "", ""), 0, 1);
        c.sentence(19, "with a FAULT there are no STRANDS");
        tourOf(made("5wa;", "", ""), NONE);
    }

    private static void tourOfLikeOnes() {
        c.sentence(19, "most are READ: more and later ahead of fewer and sooner");
        tourOf(made("5wa;9wb", Cases.times("5", 19) + "9", ""), 19, 0, 1);
        c.sentence(19, "of like ones the one of which the last is READ soonest: not the least row");
        tourOf(made("5wa;3wb;4wc", "", ""), 4, 0, 2, 1);
        // Row 0, 1, 3 is an hour sooner, and sets out for 2 while it is still at 5, to wait there in vain.
        c.sentence(19, "of like ones the one of which the last is READ soonest: also by coming to another one later");
        tourOf(with(made("3wa;4wa;5wa;4wa", "", ""), 2, 5, 2, 4), 5, 1, 0, 3, 2);
        c.sentence(19, "of like ones the least row: the first differs");
        tourOf(made("5wa;5wb", "", ""), 1, 0, 1);
        tourOf(made("4wa;5wb;3wc", "", ""), 4, 1, 0, 2);
        c.sentence(19, "of like ones the least row: of those by which as many are, not of all");
        tourOf(made("5wa;5wb;9wc", "", ""), 1, 0, 1);
        // All are eaten in hour 2: any two of them can be read, in hours 0 and 1.
        c.sentence(19, "of like ones the least row: the last differs");
        WrackDeeds x = made("5wa;5wb;5wc", "", "");
        x.event(1, 2, 1, 0);
        x.event(1, 2, 2, 0);
        x.event(1, 2, 0, 0);
        tourOf(x, 1, 0, 1);
    }

    private static void tourOnTheWay() {
        c.sentence(19, "the clerk comes in HOUR 19: just in time");
        tourOf(made("0wa;9wb", Cases.times("5", 9) + "0" + Cases.times("5", 9) + "9", ""), 19, 0, 1);
        c.sentence(19, "he would come in HOUR 20: one of them");
        tourOf(made("0wa;9wb", Cases.times("5", 10) + "0" + Cases.times("5", 8) + "9", ""), 10, 0);
        c.sentence(19, "a new EVENT, TIDE or STRAND makes it another");
        WrackDeeds x = made("5wa;5wb", "", "");
        tourOf(x, 1, 0, 1);
        x.event(1, 1, 0, 0);
        tourOf(x, 1, 0, 1);
        x.event(1, 1, 1, 0);
        tourOf(x, 0, 0);
        x.back();
        x.type(1, '0');
        tourOf(x, 1, 1);
        x.undo(1);
        Cases.typeAll(x, 0, ";5wc");
        tourOf(x, 2, 0, 1, 2);
        x.wipe(0);
        tourOf(x, NONE);
    }

    private static void hangIsBad() {
        c.sentence(20, "BAD: kind below 0, above 2");
        c.bad("hang(-1, 0)", x -> x.hang(-1, 0));
        c.bad("hang(3, 0)", x -> x.hang(3, 0));
        c.bad("hang(least, 0)", x -> x.hang(Cases.LEAST, 0));
        c.bad("hang(greatest, 0)", x -> x.hang(Cases.MOST, 0));
        c.sentence(20, "BAD: what below 0, above 1");
        c.bad("hang(0, -1)", x -> x.hang(0, -1));
        c.bad("hang(0, 2)", x -> x.hang(0, 2));
        c.bad("hang(0, least)", x -> x.hang(0, Cases.LEAST));
        c.bad("hang(0, greatest)", x -> x.hang(0, Cases.MOST));
    }

    private static void hangOf(WrackDeeds x, int kind, int where, int many) {
        c.due("hang(" + kind + ", 0)", x.hang(kind, 0), where);
        c.due("hang(" + kind + ", 1)", x.hang(kind, 1), many);
    }

    private static void hang() {
        c.sentence(20, "of like ones the least: 0, where the TIDE just is not above 2, of kelp 4");
        hangOf(made("", Cases.times("0", 20), ""), 0, 0, 20);
        hangOf(made("", Cases.times("2", 20), ""), 0, 0, 20);
        hangOf(made("", Cases.times("4", 20), ""), 1, 0, 20);
        hangOf(made("", Cases.times("2", 20), ""), 2, 0, 10);
        c.sentence(20, "of like ones the least: 1, where it is");
        hangOf(made("", Cases.times("3", 20), ""), 0, 1, 20);
        hangOf(made("", Cases.times("5", 20), ""), 1, 1, 20);
        hangOf(made("", Cases.times("3", 20), ""), 2, 1, 10);
        c.sentence(20, "the highest that can be best: 7, of kelp 5");
        hangOf(made("", Cases.times("9", 20), ""), 0, 7, 20);
        hangOf(made("", Cases.times("9", 20), ""), 1, 5, 20);
        hangOf(made("", Cases.times("9", 20), ""), 2, 7, 10);
        c.sentence(20, "without TIDES: by 5 in each HOUR");
        hangOf(new WrackDeeds(), 0, 3, 20);
        hangOf(new WrackDeeds(), 1, 1, 20);
        hangOf(new WrackDeeds(), 2, 3, 10);
        c.sentence(20, "in most HOURS: ten and ten are like ones, eleven are more");
        hangOf(made("", Cases.times("9", 10) + Cases.times("2", 10), ""), 0, 0, 10);
        hangOf(made("", Cases.times("9", 11) + Cases.times("2", 9), ""), 0, 7, 11);
        c.sentence(20, "of dulse HOURS 10 to 19 alone");
        hangOf(made("", Cases.times("9", 10) + Cases.times("2", 10), ""), 2, 0, 10);
        hangOf(made("", Cases.times("9", 11) + Cases.times("2", 9), ""), 2, 0, 9);
        hangOf(made("", Cases.times("9", 15) + Cases.times("2", 5), ""), 2, 0, 5);
        c.sentence(20, "a new STRAND: where there are eight, too, and without their EVENTS");
        WrackDeeds x = made(Cases.EIGHT, "", "");
        for (int s = 0; s < 8; s++) x.event(1, 0, s, 0);
        hangOf(x, 0, 3, 20);
        c.sentence(20, "a new STRAND: no EVENT of one that there is not");
        WrackDeeds y = new WrackDeeds();
        for (int s = 0; s < 8; s++) y.event(1, 0, s, 0);
        hangOf(y, 0, 3, 20);
    }

    private static void saveIsBad() {
        c.sentence(21, "BAD: no such STRAND");
        c.bad("save(-1, NONE)", x -> x.save(-1, NONE));
        c.bad("save(3, NONE)", x -> x.save(3, NONE));
        c.bad("save(3, 0)", x -> x.save(3, 0));
        c.bad("save(least, 0)", x -> x.save(Cases.LEAST, 0));
        c.bad("save(greatest, 0)", x -> x.save(Cases.MOST, 0));
        c.refused("save(0, NONE) of none", WrackDeeds::new, x -> x.save(0, NONE), BAD, 0);
        c.sentence(21, "BAD: i below NONE, above 1");
        c.bad("save(0, -2)", x -> x.save(0, -2));
        c.bad("save(0, 2)", x -> x.save(0, 2));
        c.bad("save(0, least)", x -> x.save(0, Cases.LEAST));
        c.bad("save(0, greatest)", x -> x.save(0, Cases.MOST));
    }

    private static void saveOf(WrackDeeds x, int strand, int many, int first, int second) {
        c.due("save(" + strand + ", NONE)", x.save(strand, NONE), many);
        c.due("save(" + strand + ", 0)", x.save(strand, 0), first);
        c.due("save(" + strand + ", 1)", x.save(strand, 1), second);
    }

    private static void saveNothing() {
        c.sentence(21, "0: it is not VOID, without EVENTS");
        saveOf(made("5wa", "", ""), 0, 0, NONE, NONE);
        c.sentence(21, "0: it is not VOID, with EVENTS of all kinds");
        WrackDeeds x = made("5wab;5wc", "", "");
        x.event(0, 0, 0, 0);
        x.event(2, 0, 0, 9);
        x.event(1, 0, 1, 0);
        x.event(1, 0, 7, 0);
        saveOf(x, 0, 0, NONE, NONE);
        c.sentence(21, "NONE: three are too many");
        WrackDeeds three = made("5wa", "", "");
        for (int k = 0; k < 3; k++) three.event(1, k, 0, 0);
        saveOf(three, 0, NONE, NONE, NONE);
        c.sentence(21, "NONE: eight are too many");
        WrackDeeds eight = made("5wa", "", "");
        for (int k = 0; k < 8; k++) eight.event(1, 0, 0, 0);
        saveOf(eight, 0, NONE, NONE, NONE);
    }

    private static void saveByOneOrTwo() {
        c.sentence(21, "one: the first of eight EVENTS");
        WrackDeeds first = made("5wab;5wc", "", "");
        first.event(1, 19, 0, 0);
        for (int k = 0; k < 7; k++) first.event(0, 0, 0, 0);
        saveOf(first, 0, 1, 0, NONE);
        c.sentence(21, "one: the last of eight EVENTS");
        WrackDeeds last = made("5wab;5wc", "", "");
        for (int k = 0; k < 7; k++) last.event(2, 0, 0, 0);
        last.event(1, 0, 0, 0);
        saveOf(last, 0, 1, 7, NONE);
        c.sentence(21, "two: each more than the one ahead, as told, not by their HOURS");
        WrackDeeds two = made("5wab;5wc", "", "");
        two.event(1, 19, 0, 0);
        two.event(1, 5, 1, 0);
        two.event(1, 0, 0, 0);
        saveOf(two, 0, 2, 0, 2);
        saveOf(two, 1, 1, 1, NONE);
        c.sentence(21, "two: the last two of eight EVENTS");
        WrackDeeds late = made("5wab;5wc", "", "");
        for (int k = 0; k < 6; k++) late.event(1, 0, 1, 0);
        late.event(1, 3, 0, 0);
        late.event(1, 3, 0, 0);
        saveOf(late, 0, 2, 6, 7);
        saveOf(late, 1, NONE, NONE, NONE);
        c.sentence(21, "not VOID behind HOUR 19: a HERON of HOUR 19 counts");
        saveOf(with(made("5wa", "", ""), 1, 19, 0, 0), 0, 1, 0, NONE);
        c.sentence(21, "not VOID by what it HANGS on, through a chain of eight");
        WrackDeeds chain = made(CHAIN, "", "");
        chain.event(1, 4, 7, 0);
        for (int s = 0; s < 8; s++) saveOf(chain, s, 1, 0, NONE);
        chain.event(1, 2, 0, 0);
        saveOf(chain, 0, 2, 0, 1);
        saveOf(chain, 1, 1, 0, NONE);
        chain.event(1, 2, 3, 0);
        saveOf(chain, 0, NONE, NONE, NONE);
        saveOf(chain, 3, 2, 0, 2);
        c.sentence(21, "in a ring each of the others counts");
        WrackDeeds ring = made("1wab;1wba", "", "");
        ring.event(1, 0, 1, 0);
        saveOf(ring, 0, 1, 0, NONE);
        saveOf(ring, 1, 1, 0, NONE);
    }

    private static void fillIsBad() {
        c.sentence(22, "BAD: HOUR below 0, above 19");
        c.bad("fill(-1, 0, 0)", x -> x.fill(-1, 0, 0));
        c.bad("fill(20, 0, 0)", x -> x.fill(20, 0, 0));
        c.bad("fill(least, 0, NONE)", x -> x.fill(Cases.LEAST, 0, NONE));
        c.bad("fill(greatest, 0, NONE)", x -> x.fill(Cases.MOST, 0, NONE));
        c.sentence(22, "BAD: no such STRAND");
        c.bad("fill(0, -1, 0)", x -> x.fill(0, -1, 0));
        c.bad("fill(0, 3, NONE)", x -> x.fill(0, 3, NONE));
        c.bad("fill(0, least, 0)", x -> x.fill(0, Cases.LEAST, 0));
        c.bad("fill(0, greatest, 0)", x -> x.fill(0, Cases.MOST, 0));
        c.refused("fill(0, 0, NONE) of none", WrackDeeds::new, x -> x.fill(0, 0, NONE), BAD, 0);
        c.sentence(22, "BAD: i below NONE, above 5");
        c.bad("fill(0, 0, -2)", x -> x.fill(0, 0, -2));
        c.bad("fill(0, 0, 6)", x -> x.fill(0, 0, 6));
        c.bad("fill(0, 0, least)", x -> x.fill(0, 0, Cases.LEAST));
        c.bad("fill(0, 0, greatest)", x -> x.fill(0, 0, Cases.MOST));
    }

    /** What may be filled in an hour: the ways, and the least of them as a text ("" where there is none). */
    private static void fillOf(WrackDeeds x, int hour, int ways, String least) {
        c.due("fill(" + hour + ", 0, NONE)", x.fill(hour, 0, NONE), ways);
        for (int i = 0; i < 6; i++) c.due("fill(" + hour + ", 0, " + i + ")", x.fill(hour, 0, i), i < least.length() ? least.charAt(i) - 'a' : NONE);
    }

    private static WrackDeeds popped(String bladders, int... numbers) {
        WrackDeeds x = made("5w" + bladders, "", "");
        for (int number : numbers) x.event(0, 5, 0, number);
        return x;
    }

    private static void fillNothing() {
        c.sentence(22, "nothing POPPED: one way, as told");
        fillOf(popped("a"), 0, 1, "a");
        fillOf(popped("dcbadc"), 19, 1, "dcbadc");
        c.sentence(22, "nothing POPPED, two alike beside each other: no way, NONE");
        fillOf(popped("aa"), 0, 0, "");
        fillOf(popped("abcdcc"), 0, 0, "");
        c.sentence(22, "in all of it: no way, also where the POPPED one is apart from those alike");
        fillOf(popped("aabc", 3), 5, 0, "");
        fillOf(popped("abcdd", 0), 5, 0, "");
        c.sentence(22, "NONE: not so many BLADDERS");
        c.due("fill(0, 0, 0)", popped("b").fill(0, 0, 0), 1);
        c.due("fill(0, 0, 1)", popped("b").fill(0, 0, 1), NONE);
        c.due("fill(0, 0, 5)", popped("abcda").fill(0, 0, 5), NONE);
        c.due("fill(0, 0, 4)", popped("abcda").fill(0, 0, 4), 0);
        c.sentence(22, "NONE: not so many BLADDERS, also behind a STRAND that has more");
        WrackDeeds two = made("5wabcdab;5wab", "", "");
        c.due("the sixth", two.fill(0, 0, 5), 1);
        for (int i = 2; i < 6; i++) c.due("fill(0, 1, " + i + ")", two.fill(0, 1, i), NONE);
        c.sentence(22, "in an HOUR: POPPED from its HOUR on");
        WrackDeeds x = popped("ab", 1);
        fillOf(x, 4, 1, "ab");
        fillOf(x, 5, 3, "ab");
        fillOf(x, 19, 3, "ab");
    }

    private static void fillWays() {
        c.sentence(22, "one alone: a to d");
        fillOf(popped("c", 0), 5, 4, "a");
        c.sentence(22, "the first, the last: three ways");
        fillOf(popped("ab", 0), 5, 3, "ab");
        fillOf(popped("ba", 0), 5, 3, "ba");
        fillOf(popped("ad", 1), 5, 3, "ab");
        c.sentence(22, "between two unlike ones: two ways");
        fillOf(popped("abc", 1), 5, 2, "abc");
        fillOf(popped("bac", 1), 5, 2, "bac");
        fillOf(popped("cdb", 1), 5, 2, "cab");
        c.sentence(22, "between two like ones: three ways");
        fillOf(popped("aba", 1), 5, 3, "aba");
        fillOf(popped("bcb", 1), 5, 3, "bab");
        c.sentence(22, "two beside each other");
        fillOf(popped("abca", 1, 2), 5, 6, "abca");
        fillOf(popped("abcb", 1, 2), 5, 7, "abab");
        c.sentence(22, "POPPED, it may part two alike");
        fillOf(popped("aab", 0), 5, 3, "bab");
        fillOf(popped("aaa", 1), 5, 3, "aba");
        c.sentence(22, "the least way may be one that goes on with more than the least");
        fillOf(popped("dda", 1), 5, 2, "dba");
        fillOf(popped("bba", 1), 5, 2, "bca");
        c.sentence(22, "all six POPPED");
        fillOf(popped("abcdab", 0, 1, 2, 3, 4, 5), 5, 972, "ababab");
        c.sentence(22, "of one that is EATEN all: one, two, six BLADDERS, also alike as told");
        fillOf(with(popped("d"), 1, 7, 0, 0), 7, 4, "a");
        fillOf(with(popped("aa"), 1, 7, 0, 0), 7, 12, "ab");
        fillOf(with(popped("aa"), 1, 7, 0, 0), 6, 0, "");
        fillOf(with(popped("dddddd"), 1, 7, 0, 0), 19, 972, "ababab");
    }
}
