/** Promises 23 to 29: each sentence that names a boundary case. */
public final class SeenBoundsTest {
    private static final int BAD = Cases.BAD, FULL = Cases.FULL;
    private static final int DRY = 0, LEGIBLE = 1, UNDER = 2, EATEN = 3, RED = 4;
    /** Each hangs on the next one, and the last on the one ahead of it. */
    private static final String CHAIN = "1waa;1wab;1wbb;1wbc;1wcc;1wcd;1wdd;1wdd";
    private static final Cases c = new Cases(23, 29);

    public static void main(String[] args) {
        seen();
        forget();
        never();
        neverOfWhatThereIsNot();
        wasIsBad();
        hung();
        sort();
        ask();
        riskIsBad();
        riskOfOne();
        riskOfMany();
        centuryIsBad();
        centuryOfNothing();
        centuryBySeeds();
        c.end();
    }

    private static WrackDeeds made(String strands, String tides, String route) { return Cases.made(strands, tides, route); }

    private static WrackDeeds seen(WrackDeeds x, int hour, int strand, int state) {
        x.seen(hour, strand, state);
        return x;
    }

    private static void seen() {
        c.sentence(23, "the least and the greatest of each number");
        WrackDeeds x = new WrackDeeds();
        c.due("seen(0, 0, 0)", x.seen(0, 0, 0), 1);
        c.due("seen(19, 7, 4)", x.seen(19, 7, 4), 2);
        c.sentence(23, "BAD: HOUR below 0, above 19");
        c.bad("seen(-1, 0, 0)", y -> y.seen(-1, 0, 0));
        c.bad("seen(20, 0, 0)", y -> y.seen(20, 0, 0));
        c.bad("seen(least, 0, 0)", y -> y.seen(Cases.LEAST, 0, 0));
        c.bad("seen(greatest, 0, 0)", y -> y.seen(Cases.MOST, 0, 0));
        c.sentence(23, "BAD: STRAND below 0, above 7");
        c.bad("seen(0, -1, 0)", y -> y.seen(0, -1, 0));
        c.bad("seen(0, 8, 0)", y -> y.seen(0, 8, 0));
        c.bad("seen(0, least, 0)", y -> y.seen(0, Cases.LEAST, 0));
        c.bad("seen(0, greatest, 0)", y -> y.seen(0, Cases.MOST, 0));
        c.sentence(23, "BAD: what it was below 0, above 4");
        c.bad("seen(0, 0, -1)", y -> y.seen(0, 0, -1));
        c.bad("seen(0, 0, 5)", y -> y.seen(0, 0, 5));
        c.bad("seen(0, 0, least)", y -> y.seen(0, 0, Cases.LEAST));
        c.bad("seen(0, 0, greatest)", y -> y.seen(0, 0, Cases.MOST));
        c.sentence(23, "8 at most: how many");
        WrackDeeds eight = new WrackDeeds();
        for (int k = 1; k <= 8; k++) c.due("seen " + k, eight.seen(k, k - 1, k % 5), k);
        c.sentence(23, "FULL: a ninth");
        c.due("seen", eight.seen(0, 0, 0), FULL);
        c.due("count(7)", eight.count(7), 8);
        c.refused("seen", Cases::full, y -> y.seen(0, 0, DRY), FULL, 0);
        c.sentence(23, "BAD ahead of FULL");
        c.refused("seen(20, 0, 0)", Cases::full, y -> y.seen(20, 0, 0), BAD, 0);
        c.refused("seen(0, 8, 0)", Cases::full, y -> y.seen(0, 8, 0), BAD, 0);
        c.refused("seen(0, 0, 5)", Cases::full, y -> y.seen(0, 0, 5), BAD, 0);
        c.sentence(23, "a STRAND that there is not: it may be told");
        c.due("seen(0, 5, 1)", made("5wa", "", "").seen(0, 5, 1), 1);
    }

    private static void forget() {
        c.sentence(24, "how many: none");
        c.due("forget()", new WrackDeeds().forget(), 0);
        c.sentence(24, "how many: all eight, then none");
        WrackDeeds x = Cases.full();
        c.due("forget()", x.forget(), 8);
        c.due("count(7)", x.count(7), 0);
        c.due("forget() again", x.forget(), 0);
        c.sentence(24, "there is room again for eight");
        for (int k = 1; k <= 8; k++) c.due("seen " + k, x.seen(0, 0, DRY), k);
        c.due("a ninth", x.seen(0, 0, DRY), FULL);
        c.sentence(24, "all SEEN are forgotten: what they left over comes back");
        WrackDeeds y = seen(made("5wa", "", ""), 0, 0, DRY);
        c.due("was(0, 0)", y.was(0, 0), 0b1111000000);
        y.forget();
        c.due("was(0, 0) then", y.was(0, 0), 1023);
        c.due("was(0, 1)", y.was(0, 1), 7);
        c.sentence(24, "EVENTS stay");
        WrackDeeds z = Cases.full();
        z.forget();
        c.due("count(5)", z.count(5), 8);
    }

    private static void never() {
        c.sentence(25, "no EVENTS: none");
        c.due("never()", made("5wa", "", "").never(), 0);
        c.due("never(), also where it was seen so", seen(made("5wa", "", ""), 0, 0, LEGIBLE).never(), 0);
        c.sentence(25, "nothing SEEN: each of them, up to the eighth");
        WrackDeeds all = made("5wa", "", "");
        for (int k = 0; k < 8; k++) {
            all.event(k % 3, k, 0, k);
            c.due("never()", all.never(), (2 << k) - 1);
        }
        c.sentence(25, "the eighth alone, as a bit");
        WrackDeeds last = made("5wa", "", "");
        for (int k = 0; k < 7; k++) last.event(0, 0, 0, 0);
        last.event(1, 0, 0, 0);
        c.due("never()", seen(last, 0, 0, LEGIBLE).never(), 128);
        c.sentence(25, "had it alone not been: of two HERONS neither");
        WrackDeeds two = made("5wa", "", "");
        two.event(1, 3, 0, 0);
        two.event(1, 3, 0, 0);
        c.due("never()", seen(two, 3, 0, LEGIBLE).never(), 0);
        two.forget();
        c.due("never(), as it was", seen(two, 3, 0, EATEN).never(), 3);
        c.sentence(25, "had it alone not been: of two HERONS the first, in the HOUR ahead of the other");
        WrackDeeds apart = made("5wa", "", "");
        apart.event(1, 3, 0, 0);
        apart.event(1, 4, 0, 0);
        c.due("never()", seen(apart, 3, 0, LEGIBLE).never(), 1);
        c.sentence(25, "had a STORM not been, the one ahead of it goes on");
        WrackDeeds storms = made("5wa", "", "");
        storms.event(2, 2, 0, 9);
        storms.event(2, 8, 0, 5);
        c.due("never()", seen(storms, 8, 0, DRY).never(), 2);
        storms.forget();
        c.due("never(), of the first", seen(storms, 7, 0, LEGIBLE).never(), 1);
        c.sentence(25, "all that was SEEN: one that fails is enough");
        WrackDeeds fails = made("5wa;5wb", "", "");
        fails.event(1, 3, 0, 0);
        fails.seen(3, 0, LEGIBLE);
        c.due("never()", fails.never(), 1);
        fails.seen(3, 1, DRY);
        c.due("never(), of another strand", fails.never(), 0);
    }

    private static void neverOfWhatThereIsNot() {
        c.sentence(25, "an EVENT of a STRAND that there is not: without it all is as it was");
        WrackDeeds x = made("5wa", "", "");
        x.event(1, 0, 7, 0);
        c.due("never()", seen(x, 0, 0, LEGIBLE).never(), 1);
        c.due("never(), seen otherwise", seen(x, 0, 0, DRY).never(), 0);
        c.sentence(25, "SEEN, one that there is not: never");
        WrackDeeds y = made("5wa", "", "");
        y.event(0, 0, 0, 0);
        for (int state = 0; state < 5; state++) {
            y.forget();
            c.due("never(), seen " + state, seen(y, 0, 1, state).never(), 0);
        }
        c.sentence(25, "SEEN, one that there is not, of which there is an EVENT: never");
        WrackDeeds z = new WrackDeeds();
        z.event(1, 0, 0, 0);
        c.due("never()", seen(z, 0, 0, EATEN).never(), 0);
        c.sentence(25, "SEEN, one that comes later: then it may be");
        Cases.typeAll(z, 0, "5wa");
        c.due("never()", z.never(), 0);
        z.event(0, 0, 0, 0);
        c.due("never(), of the pop", z.never(), 2);
    }

    private static void wasIsBad() {
        c.sentence(26, "BAD: no such STRAND");
        c.bad("was(-1, 0)", x -> x.was(-1, 0));
        c.bad("was(3, 0)", x -> x.was(3, 0));
        c.bad("was(3, 1)", x -> x.was(3, 1));
        c.bad("was(least, 0)", x -> x.was(Cases.LEAST, 0));
        c.bad("was(greatest, 0)", x -> x.was(Cases.MOST, 0));
        c.refused("was(0, 0) of none", WrackDeeds::new, x -> x.was(0, 0), BAD, 0);
        c.sentence(26, "BAD: what below 0, above 1");
        c.bad("was(0, -1)", x -> x.was(0, -1));
        c.bad("was(0, 2)", x -> x.was(0, 2));
        c.bad("was(0, least)", x -> x.was(0, Cases.LEAST));
        c.bad("was(0, greatest)", x -> x.was(0, Cases.MOST));
    }

    private static void hung() {
        c.sentence(26, "HUNG, nothing SEEN: 0 to 9");
        c.due("was(0, 0)", made("5wa", "", "").was(0, 0), 1023);
        c.sentence(26, "HUNG: 9 alone");
        c.due("was(0, 0)", seen(made("5wa", "8", ""), 0, 0, DRY).was(0, 0), 512);
        c.sentence(26, "HUNG: 0 alone");
        c.due("was(0, 0)", seen(made("5wa", "3", ""), 0, 0, UNDER).was(0, 0), 1);
        c.due("was(0, 0) of kelp", seen(made("5ka", "5", ""), 0, 0, UNDER).was(0, 0), 1);
        c.sentence(26, "HUNG: by tide 0, by tide 9");
        c.due("legible by 0", seen(made("5wa", "0", ""), 0, 0, LEGIBLE).was(0, 0), 1);
        c.due("legible by 9", seen(made("5wa", "9", ""), 0, 0, LEGIBLE).was(0, 0), 0b1110000000);
        c.due("legible kelp by 9", seen(made("5ka", "9", ""), 0, 0, LEGIBLE).was(0, 0), 0b1111100000);
        c.due("red dulse by 9", seen(made("5da", "9", ""), 0, 0, RED).was(0, 0), 0b1110000000);
        c.sentence(26, "HUNG: none, as bits 0");
        c.due("dry by 9", seen(made("5wa", "9", ""), 0, 0, DRY).was(0, 0), 0);
        c.due("under by 2", seen(made("5wa", "2", ""), 0, 0, UNDER).was(0, 0), 0);
        c.due("red wrack", seen(made("5wa", "", ""), 0, 0, RED).was(0, 0), 0);
        c.due("eaten by none", seen(made("5wa", "", ""), 0, 0, EATEN).was(0, 0), 0);
        c.sentence(26, "HUNG: in place of its own as told; a STORM makes it like whatever it was");
        WrackDeeds storm = made("5wa", "", "");
        storm.event(2, 4, 0, 9);
        storm.seen(4, 0, DRY);
        c.due("behind the storm", storm.was(0, 0), 1023);
        storm.seen(3, 0, DRY);
        c.due("ahead of it", storm.was(0, 0), 0b1111000000);
        c.sentence(26, "HUNG: all that was SEEN, of other STRANDS too, and of one that there is not");
        WrackDeeds x = made("5wa;5wb", "", "");
        x.seen(0, 1, LEGIBLE);
        c.due("another, as it is", x.was(0, 0), 1023);
        x.seen(0, 1, DRY);
        c.due("another, as it is not", x.was(0, 0), 0);
        c.due("one that there is not", seen(made("5wa", "", ""), 0, 1, LEGIBLE).was(0, 0), 0);
    }

    private static void sort() {
        c.sentence(26, "SORT, nothing SEEN: all three");
        c.due("was(0, 1)", made("5wa", "", "").was(0, 1), 7);
        c.sentence(26, "SORT: 2 above is LEGIBLE for all by day, 3 above for kelp alone, 5 above for none");
        c.due("2 above", seen(made("3wa", Cases.times("5", 20), ""), 19, 0, LEGIBLE).was(0, 1), 7);
        c.due("3 above", seen(made("2wa", "", ""), 19, 0, LEGIBLE).was(0, 1), 2);
        c.due("4 above", seen(made("1wa", "", ""), 19, 0, LEGIBLE).was(0, 1), 2);
        c.due("5 above", seen(made("0wa", "", ""), 19, 0, LEGIBLE).was(0, 1), 0);
        c.due("3 above, under", seen(made("2wa", "", ""), 19, 0, UNDER).was(0, 1), 5);
        c.due("5 above, under", seen(made("0wa", "", ""), 19, 0, UNDER).was(0, 1), 7);
        c.sentence(26, "SORT: RED is dulse alone, in HOUR 9, not in HOUR 10");
        c.due("red in 9", seen(made("5wa", "", ""), 9, 0, RED).was(0, 1), 4);
        c.due("red in 10", seen(made("5wa", "", ""), 10, 0, RED).was(0, 1), 0);
        c.due("legible in 9", seen(made("5da", "", ""), 9, 0, LEGIBLE).was(0, 1), 3);
        c.due("legible in 10", seen(made("5da", "", ""), 10, 0, LEGIBLE).was(0, 1), 7);
        c.sentence(26, "SORT: likewise of other STRANDS");
        c.due("another, as it is not", seen(made("5wa;5wb", "", ""), 0, 1, DRY).was(0, 1), 0);
        c.due("one that there is not", seen(made("5wa", "", ""), 0, 1, LEGIBLE).was(0, 1), 0);
    }

    private static void ask() {
        c.sentence(27, "BAD: no such STRAND");
        c.bad("ask(-1)", x -> x.ask(-1));
        c.bad("ask(3)", x -> x.ask(3));
        c.bad("ask(8)", x -> x.ask(8));
        c.bad("ask(least)", x -> x.ask(Cases.LEAST));
        c.bad("ask(greatest)", x -> x.ask(Cases.MOST));
        c.refused("ask(0) of none", WrackDeeds::new, x -> x.ask(0), BAD, 0);
        c.sentence(27, "of like ones the least: all HOURS are alike");
        c.due("ask(0)", made("5wa", "", "").ask(0), 0);
        // By tide 9 seven of ten heights are under; by tide 5 three are under, three legible, four dry.
        c.sentence(27, "HOUR 19");
        c.due("ask(0)", made("5wa", Cases.times("9", 19) + "5", "").ask(0), 19);
        c.sentence(27, "HOUR 1");
        c.due("ask(0)", made("5wa", "95" + Cases.times("9", 18), "").ask(0), 1);
        // By tide 5 there are 3, 3 and 4 alike, by tide 6 there are 4, 3 and 3: like ones by 0 and 9 alone.
        c.sentence(27, "heights 0 and 9 count, 10 does not");
        c.due("tide 5, then 6", made("5wa", "56", "").ask(0), 0);
        c.due("tide 6, then 5", made("5wa", "65", "").ask(0), 0);
        c.sentence(27, "of like ones the least: HOUR 18 ahead of HOUR 19");
        c.due("ask(0)", made("5wa", Cases.times("9", 18) + "55", "").ask(0), 18);
        c.sentence(27, "no height at which it may have HUNG: HOUR 0");
        c.due("ask(0)", seen(made("5wa", "93", ""), 0, 0, DRY).ask(0), 0);
        c.due("of another, as it is not", seen(made("5wa;5wb", "93", ""), 0, 1, DRY).ask(0), 0);
        c.sentence(27, "one height at which it may have HUNG: HOUR 0");
        c.due("ask(0)", seen(made("5wa", "83", ""), 0, 0, DRY).ask(0), 0);
        c.sentence(27, "heights at which it may have HUNG so: not the others");
        // Left are 8 and 9: by tide 8 they are unlike, by tide 5 alike.
        c.due("ask(0)", seen(made("5wa", "75558", ""), 0, 0, DRY).ask(0), 4);
        c.sentence(27, "behind a STORM all are alike, EATEN all are alike");
        WrackDeeds storm = made("5wa", "93", "");
        storm.event(2, 1, 0, 3);
        c.due("by a storm", storm.ask(0), 0);
        WrackDeeds eaten = made("5wa", "93", "");
        eaten.event(1, 1, 0, 0);
        c.due("by a heron", eaten.ask(0), 0);
        c.due("by neither", made("5wa", "93", "").ask(0), 2);
        c.sentence(27, "RED in HOURS 0 to 9, LEGIBLE behind them: as good");
        c.due("ask(0)", made("5da", "", "").ask(0), 0);
    }

    private static void riskIsBad(String call, java.util.function.ToLongFunction<WrackDeeds> act) {
        c.refused(call, act, Cases.BAD_LONG, 0);
    }

    private static void riskIsBad() {
        c.sentence(28, "BAD, as the least long and 2 more: c below 0, above 16");
        c.due("the least long and 2 more", Cases.BAD_LONG, -9223372036854775806L);
        riskIsBad("risk(-1, 0, 0, 0)", x -> x.risk(-1, 0, 0, 0));
        riskIsBad("risk(17, 0, 0, 0)", x -> x.risk(17, 0, 0, 0));
        riskIsBad("risk(least, 0, 0, 1)", x -> x.risk(Cases.LEAST, 0, 0, 1));
        riskIsBad("risk(greatest, 0, 0, 1)", x -> x.risk(Cases.MOST, 0, 0, 1));
        c.sentence(28, "BAD: no such STRAND");
        riskIsBad("risk(0, -1, 0, 0)", x -> x.risk(0, -1, 0, 0));
        riskIsBad("risk(0, 3, 0, 1)", x -> x.risk(0, 3, 0, 1));
        riskIsBad("risk(0, least, 0, 0)", x -> x.risk(0, Cases.LEAST, 0, 0));
        riskIsBad("risk(0, greatest, 0, 0)", x -> x.risk(0, Cases.MOST, 0, 0));
        c.refused("risk(0, 0, 0, 0) of none", WrackDeeds::new, x -> x.risk(0, 0, 0, 0), Cases.BAD_LONG, 0);
        c.sentence(28, "BAD: HOUR below 0, above 19");
        riskIsBad("risk(0, 0, -1, 0)", x -> x.risk(0, 0, -1, 0));
        riskIsBad("risk(0, 0, 20, 0)", x -> x.risk(0, 0, 20, 0));
        riskIsBad("risk(0, 0, least, 0)", x -> x.risk(0, 0, Cases.LEAST, 0));
        riskIsBad("risk(0, 0, greatest, 0)", x -> x.risk(0, 0, Cases.MOST, 0));
        c.sentence(28, "BAD: what below 0, above 1");
        riskIsBad("risk(0, 0, 0, -1)", x -> x.risk(0, 0, 0, -1));
        riskIsBad("risk(0, 0, 0, 2)", x -> x.risk(0, 0, 0, 2));
        riskIsBad("risk(0, 0, 0, least)", x -> x.risk(0, 0, 0, Cases.LEAST));
        riskIsBad("risk(0, 0, 0, greatest)", x -> x.risk(0, 0, 0, Cases.MOST));
    }

    private static void riskOf(WrackDeeds x, int sixteenths, int strand, int hour, long above, long below) {
        String call = "risk(" + sixteenths + ", " + strand + ", " + hour + ", ";
        c.due(call + "0)", x.risk(sixteenths, strand, hour, 0), above);
        c.due(call + "1)", x.risk(sixteenths, strand, hour, 1), below);
    }

    private static WrackDeeds herons(int n) {
        WrackDeeds x = made("5wab;5wc", "", "");
        for (int k = 0; k < n; k++) x.event(1, 4, 0, 0);
        return x;
    }

    private static void riskOfOne() {
        c.sentence(28, "0 by 1: no EVENTS, whatever c is");
        for (int k = 0; k <= 16; k++) riskOf(herons(0), k, 0, 19, 0, 1);
        c.sentence(28, "0 by 1: no chance");
        riskOf(herons(1), 0, 0, 19, 0, 1);
        riskOf(herons(8), 0, 0, 19, 0, 1);
        c.sentence(28, "1 by 1: by 16 sixteenths");
        riskOf(herons(1), 16, 0, 19, 1, 1);
        riskOf(herons(8), 16, 0, 19, 1, 1);
        c.sentence(28, "in lowest terms: each of one HERON");
        long[] above = {0, 1, 1, 3, 1, 5, 3, 7, 1, 9, 5, 11, 3, 13, 7, 15, 1};
        long[] below = {1, 16, 8, 16, 4, 16, 8, 16, 2, 16, 8, 16, 4, 16, 8, 16, 1};
        for (int k = 0; k <= 16; k++) riskOf(herons(1), k, 0, 19, above[k], below[k]);
        c.sentence(28, "behind an HOUR: in that of the HERON, not ahead of it");
        riskOf(herons(1), 5, 0, 3, 0, 1);
        riskOf(herons(1), 5, 0, 4, 5, 16);
        c.sentence(28, "behind HOUR 0, behind HOUR 19");
        WrackDeeds edge = made("5wab;5wc", "", "");
        edge.event(1, 0, 0, 0);
        edge.event(1, 19, 1, 0);
        riskOf(edge, 5, 0, 0, 5, 16);
        riskOf(edge, 5, 1, 18, 0, 1);
        riskOf(edge, 5, 1, 19, 5, 16);
        c.sentence(28, "POPS, STORMS, a HERON on another and on one that there is not are no risk");
        WrackDeeds other = made("5wab;5wc", "", "");
        other.event(0, 0, 0, 0);
        other.event(2, 0, 0, 9);
        other.event(1, 0, 1, 0);
        other.event(1, 0, 7, 0);
        riskOf(other, 9, 0, 19, 0, 1);
    }

    private static void riskOfMany() {
        c.sentence(28, "each by itself: two, as it is not that neither is");
        riskOf(herons(2), 8, 0, 19, 3, 4);
        riskOf(herons(2), 1, 0, 19, 31, 256);
        riskOf(herons(2), 15, 0, 19, 255, 256);
        riskOf(herons(2), 12, 0, 19, 15, 16);
        riskOf(herons(2), 4, 0, 19, 7, 16);
        c.sentence(28, "exactly: eight HERONS");
        riskOf(herons(8), 1, 0, 19, 1732076671L, 4294967296L);
        riskOf(herons(8), 15, 0, 19, 4294967295L, 4294967296L);
        riskOf(herons(8), 8, 0, 19, 255, 256);
        riskOf(herons(8), 12, 0, 19, 65535, 65536);
        riskOf(herons(8), 14, 0, 19, 16777215, 16777216);
        c.sentence(28, "VOID by what it HANGS on: through a chain of eight, all EVENTS");
        WrackDeeds chain = made(CHAIN, "", "");
        for (int s = 0; s < 8; s++) chain.event(1, s, s, 0);
        riskOf(chain, 15, 0, 7, 4294967295L, 4294967296L);
        riskOf(chain, 8, 0, 7, 255, 256);
        riskOf(chain, 8, 0, 0, 1, 2);
        riskOf(chain, 8, 7, 7, 3, 4);
        riskOf(chain, 8, 7, 6, 1, 2);
        riskOf(chain, 8, 7, 5, 0, 1);
        c.sentence(28, "VOID in a ring");
        WrackDeeds ring = made("1wab;1wba", "", "");
        ring.event(1, 0, 0, 0);
        ring.event(1, 0, 1, 0);
        riskOf(ring, 8, 0, 0, 3, 4);
        riskOf(ring, 8, 1, 0, 3, 4);
    }

    private static void centuryIsBad() {
        c.sentence(29, "BAD: n below 0, above 8");
        c.bad("century(1, -1, 0)", x -> x.century(1, -1, 0));
        c.bad("century(1, 9, 0)", x -> x.century(1, 9, 0));
        c.bad("century(1, least, 1)", x -> x.century(1, Cases.LEAST, 1));
        c.bad("century(1, greatest, 1)", x -> x.century(1, Cases.MOST, 1));
        c.sentence(29, "BAD: what below 0, above 1");
        c.bad("century(1, 1, -1)", x -> x.century(1, 1, -1));
        c.bad("century(1, 1, 2)", x -> x.century(1, 1, 2));
        c.bad("century(1, 1, least)", x -> x.century(1, 1, Cases.LEAST));
        c.bad("century(1, 1, greatest)", x -> x.century(1, 1, Cases.MOST));
        c.sentence(29, "BAD: also where there are no STRANDS");
        c.refused("century(1, 9, 0)", WrackDeeds::new, x -> x.century(1, 9, 0), BAD, 0);
        c.refused("century(1, 8, 2)", WrackDeeds::new, x -> x.century(1, 8, 2), BAD, 0);
    }

    private static void centuryOfNothing() {
        c.sentence(29, "none where there are no STRANDS");
        for (int seed : new int[] {0, 1, -1, Cases.LEAST, Cases.MOST}) {
            c.due("void", made("", "", "abc").century(seed, 8, 0), 0);
            c.due("read", made("", "", "abc").century(seed, 8, 1), 0);
            c.due("void, with a fault", made("5wa;", "", "a").century(seed, 8, 0), 0);
        }
        c.sentence(29, "no EVENTS (n = 0), in place of those told");
        WrackDeeds x = made("5wa;5wb", "", "aab");
        for (int s = 0; s < 8; s++) x.event(1, 0, s % 2, 0);
        c.due("void", x.century(7, 0, 0), 0);
        c.due("read", x.century(7, 0, 1), 3);
        c.due("those told stay", x.voids(19), 3);
        c.due("those told stay: read", x.reads(8), 0);
        c.due("those told stay: how many", x.count(5), 8);
        c.sentence(29, "it changes nothing");
        c.refused("century(5, 8, 0)", Cases::full, y -> y.century(5, 8, 0) < 0 ? 1 : 0, 0, 0);
        c.refused("century(5, 8, 1)", Cases::full, y -> y.century(5, 8, 1) < 0 ? 1 : 0, 0, 0);
        c.sentence(29, "an empty ROUTE: none are READ");
        c.due("read", made("5wa", "", "").century(7, 0, 1), 0);
    }

    /** The lots of a seed, by longs that never wrap of themselves. */
    private static int[] lots(int seed, int n, int strands) {
        int[] row = new int[4 * n], of = {3, 20, strands, 10};
        long now = seed & 0xffffffffL;
        for (int k = 0; k < 4 * n; k++) {
            now = (now * 1103515245L + 12345L) & 0xffffffffL;
            row[k] = (int) (now / 65536 % of[k % 4]);
        }
        return row;
    }

    private static void centuryLike(String strands, int many, int seed) {
        for (int n = 0; n <= 8; n++) {
            int[] lot = lots(seed, n, many);
            WrackDeeds told = made(strands, "56", "abcdefgh"), x = made(strands, "56", "abcdefgh");
            x.event(1, 0, 0, 0);
            for (int k = 0; k < n; k++) told.event(lot[4 * k], lot[4 * k + 1], lot[4 * k + 2], lot[4 * k + 3]);
            c.due("century(" + seed + ", " + n + ", 0)", x.century(seed, n, 0), Integer.bitCount(told.voids(19)));
            c.due("century(" + seed + ", " + n + ", 1)", x.century(seed, n, 1), told.reads(8));
        }
    }

    private static void centuryBySeeds() {
        c.sentence(29, "LOTS as ints that wrap, upper 16 bits as a number from 0 on: seeds of all kinds, of one to eight STRANDS");
        int[] seeds = {0, 1, -1, 7, 12345, -12345, 65535, 65536, -65536, 1 << 30, Cases.LEAST, Cases.MOST, 1103515245, -987654321};
        String strands = "5wab";
        for (int many = 1; many <= 8; many++) {
            for (int seed : seeds) centuryLike(strands, many, seed);
            strands += ";" + "54354453".charAt(many - 1) + "wkd".charAt(many % 3) + "bacdadbc".charAt(many - 1) + "dcbacbda".charAt(many - 1);
        }
    }
}
