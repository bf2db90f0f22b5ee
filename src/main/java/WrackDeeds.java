import java.util.Arrays;

/** The drowned registry: deeds hung on rocks as wrack, read between tides. See ../shared/DOC.md. */
public final class WrackDeeds {
    public static final int NONE = -1, BAD = -2, NOT = -3, FULL = -4;

    private static final int HOURS = 20, MOST = 8, BLADDERS = 6, LETTERS = 4, HEIGHTS = 10, KINDS = 3;
    private static final int TEXTS = 3, TEXT_ROOM = 71, LATER_TIDE = 5, LAST_HOUR = 19;
    private static final int POP = 0, HERON = 1, STORM = 2;
    private static final int KELP = 1, DULSE = 2, RED_HOURS = 10;
    private static final int DRY = 0, LEGIBLE = 1, UNDER = 2, EATEN = 3, RED = 4, STATES = 5;
    private static final int GONE = 4, MOST_SAVED = 2;
    private static final int SHEETS = 4, FORMS = 3, ITEMS = 60, EVENT_ITEMS = 4;
    private static final int NULL = 1, INDEX = 2, CAST = 3, STORE = 4, SIZE = 5;
    private static final int LEAST_INT = 1 << 31;
    private static final long BAD_LONG = (1L << 63) - BAD;

    private final Text strandText, tideText, routeText;
    private final Deeds deeds;
    private final int[] tides;
    private final Events events, drawn;
    private final Shore told, guessed;
    private final Walk walk, guessedWalk;
    private final Tour best;
    private final Sightings sightings;
    private final Filling filling;
    private final Sheet[] sheets;
    private int latestFinding;
    private boolean stale;

    public WrackDeeds() {
        strandText = new Text(TEXT_ROOM);
        tideText = new Text(HOURS);
        routeText = new Text(MOST);
        deeds = new Deeds();
        tides = new int[HOURS];
        events = new Events();
        drawn = new Events();
        told = new Shore();
        guessed = new Shore();
        walk = new Walk();
        guessedWalk = new Walk();
        best = new Tour();
        sightings = new Sightings();
        filling = new Filling();
        sheets = new Sheet[SHEETS];
        for (int s = 0; s < SHEETS; s++) {
            sheets[s] = new Sheet();
        }
        latestFinding = 0;
        stale = true;
    }

    // ---- strands, tides, the route, events

    public int type(int text, int b) {
        if (!within(text, TEXTS) || !within(b, 256)) {
            return BAD;
        }
        Text t = textOf(text);
        if (t.size >= t.most) {
            return FULL;
        }
        t.bytes[t.size] = b;
        t.size++;
        stale = true;
        return t.size;
    }

    public int wipe(int text) {
        if (!within(text, TEXTS)) {
            return BAD;
        }
        Text t = textOf(text);
        int had = t.size;
        t.size = 0;
        stale = true;
        return had;
    }

    public int undo(int text) {
        if (!within(text, TEXTS)) {
            return BAD;
        }
        Text t = textOf(text);
        if (t.size == 0) {
            return NOT;
        }
        t.size--;
        stale = true;
        return t.size;
    }

    public int fault(int text) {
        if (!within(text, TEXTS)) {
            return BAD;
        }
        freshen();
        return textOf(text).faultAt;
    }

    public int strand(int strand, int what) {
        if (!isStrand(strand) || !within(what, 3 + BLADDERS)) {
            return BAD;
        }
        if (what == 0) {
            return deeds.highs[strand];
        }
        if (what == 1) {
            return deeds.kinds[strand];
        }
        if (what == 2) {
            return deeds.lengths[strand];
        }
        return what - 3 < deeds.lengths[strand] ? deeds.bladderOf(strand, what - 3) : NONE;
    }

    public int tide(int hour) {
        if (!within(hour, HOURS)) {
            return BAD;
        }
        freshen();
        return tides[hour];
    }

    public int route(int i) {
        if (!within(i, MOST)) {
            return BAD;
        }
        freshen();
        return i < routeText.sound() ? routeText.bytes[i] - 'a' : NONE;
    }

    public int event(int kind, int hour, int strand, int number) {
        if (!mayBeEvent(kind, hour, strand, number)) {
            return BAD;
        }
        if (events.size >= MOST) {
            return FULL;
        }
        events.tell(kind, hour, strand, number);
        stale = true;
        return events.size;
    }

    public int back() {
        if (events.size == 0) {
            return NOT;
        }
        events.size--;
        stale = true;
        return events.size;
    }

    public int read(int s) {
        if (!within(s, SHEETS)) {
            return BAD;
        }
        Sheet sheet = sheets[s];
        if (sheet.lost) {
            return finding(NULL);
        }
        int whole = sheet.size / EVENT_ITEMS;
        int came = 0;
        while (came < whole && eventFrom(sheet, came * EVENT_ITEMS)) {
            came++;
        }
        return came;
    }

    // ---- hours

    public int state(int hour, int strand, int what) {
        if (!within(hour, HOURS) || !isStrand(strand) || !within(what, 2)) {
            return BAD;
        }
        Hanging hanging = told.hangings[strand];
        return what == 0 ? hanging.states[hour] : hanging.highs[hour];
    }

    public int says(int hour, int strand, int i) {
        if (!within(hour, HOURS) || !isStrand(strand) || !within(i, BLADDERS)) {
            return BAD;
        }
        return i < deeds.lengths[strand] ? bladderIn(hour, strand, i) : NONE;
    }

    public int deed(int strand, int what) {
        if (!isStrand(strand) || !within(what, 2)) {
            return BAD;
        }
        return what == 0 ? told.hangings[strand].legibleHours() : deeds.ons[strand];
    }

    public int voids(int hour) {
        if (!within(hour, HOURS)) {
            return BAD;
        }
        freshen();
        return voidBits(events, hour);
    }

    public int forged() {
        freshen();
        int bits = 0;
        for (int s = 0; s < deeds.size; s++) {
            if (deeds.inTwos(s)) {
                bits |= 1 << s;
            }
        }
        return bits;
    }

    public int tangled(int what) {
        if (!within(what, 2)) {
            return BAD;
        }
        freshen();
        int pairs = 0;
        int longest = 0;
        for (int s = 0; s < deeds.size; s++) {
            for (int t = s + 1; t < deeds.size; t++) {
                int run = deeds.commonRun(s, t);
                if (run >= 2) {
                    pairs++;
                    longest = Math.max(longest, run);
                }
            }
        }
        return what == 0 ? pairs : longest;
    }

    public int reads(int i) {
        if (!within(i, MOST + 1)) {
            return BAD;
        }
        freshen();
        if (i == MOST) {
            return walk.size;
        }
        return i < walk.size ? walk.hours[i] : NONE;
    }

    // ---- plans

    public int tour(int what) {
        if (!within(what, 2 + MOST)) {
            return BAD;
        }
        freshen();
        best.look(told, deeds.size);
        if (what == 0) {
            return best.size;
        }
        if (what == 1) {
            return best.lastHour;
        }
        return what - 2 < best.size ? best.row[what - 2] : NONE;
    }

    public int hang(int kind, int what) {
        if (!within(kind, KINDS) || !within(what, 2)) {
            return BAD;
        }
        freshen();
        int where = 0;
        int most = NONE;
        for (int high = 0; high < HEIGHTS; high++) {
            int hours = legibleHoursAt(kind, high);
            if (hours > most) {
                most = hours;
                where = high;
            }
        }
        return what == 0 ? where : most;
    }

    public int save(int strand, int i) {
        if (!isStrand(strand) || i < NONE || i >= MOST_SAVED) {
            return BAD;
        }
        // A strand is void by any heron on its chain: just all of those had better not be.
        int herons = events.herons(deeds.chains[strand], LAST_HOUR);
        int many = Integer.bitCount(herons);
        if (many > MOST_SAVED) {
            return NONE;
        }
        return i == NONE ? many : bitAt(herons, i);
    }

    public int fill(int hour, int strand, int i) {
        if (!within(hour, HOURS) || !isStrand(strand) || i < NONE || i >= BLADDERS) {
            return BAD;
        }
        int length = deeds.lengths[strand];
        filling.begin(length);
        for (int k = 0; k < length; k++) {
            filling.known[k] = bladderIn(hour, strand, k);
        }
        filling.reckon();
        return i == NONE ? filling.ways() : filling.leastAt(i);
    }

    // ---- seen, chance, centuries

    public int seen(int hour, int strand, int state) {
        if (!within(hour, HOURS) || !within(strand, MOST) || !within(state, STATES)) {
            return BAD;
        }
        if (sightings.size >= MOST) {
            return FULL;
        }
        sightings.tell(hour, strand, state);
        return sightings.size;
    }

    public int forget() {
        int had = sightings.size;
        sightings.size = 0;
        return had;
    }

    public int never() {
        freshen();
        int bits = 0;
        for (int e = 0; e < events.size; e++) {
            int strand = events.strands[e];
            if (strand < deeds.size) {
                guessHanging(strand, deeds.highs[strand], deeds.kinds[strand], e);
            }
            if (comesOut(strand)) {
                bits |= 1 << e;
            }
        }
        return bits;
    }

    public int was(int strand, int what) {
        if (!isStrand(strand) || !within(what, 2)) {
            return BAD;
        }
        return what == 0 ? hungBits(strand) : sortBits(strand);
    }

    public int ask(int strand) {
        if (!isStrand(strand)) {
            return BAD;
        }
        int[] alike = sightings.alike;
        Arrays.fill(alike, 0);
        for (int high = 0; high < HEIGHTS; high++) {
            guessHanging(strand, high, deeds.kinds[strand], NONE);
            if (comesOut(strand)) {
                sightings.addAlike(guessed.hangings[strand].states);
            }
        }
        int hour = 0;
        for (int h = 1; h < HOURS; h++) {
            if (sightings.mostAlike(h) < sightings.mostAlike(hour)) {
                hour = h;
            }
        }
        return hour;
    }

    public long risk(int c, int strand, int hour, int what) {
        if (!within(c, 17) || !isStrand(strand) || !within(hour, HOURS) || !within(what, 2)) {
            return BAD_LONG;
        }
        int herons = Integer.bitCount(events.herons(deeds.chains[strand], hour));
        long below = 1;
        long spared = 1;
        for (int k = 0; k < herons; k++) {
            below *= 16;
            spared *= 16 - c;
        }
        long above = below - spared;
        // below is a power of 2, so halving both as long as that goes gives lowest terms.
        for (int k = 0; k < 4 * MOST && below > 1 && above % 2 == 0; k++) {
            above /= 2;
            below /= 2;
        }
        return what == 0 ? above : below;
    }

    public int century(int seed, int n, int what) {
        if (!within(n, MOST + 1) || !within(what, 2)) {
            return BAD;
        }
        freshen();
        drawn.draw(seed, n, deeds.size);
        if (what == 0) {
            return Integer.bitCount(voidBits(drawn, LAST_HOUR));
        }
        guessed.hangAll(deeds, tides, drawn);
        guessedWalk.go(guessed, deeds.size, routeText);
        return guessedWalk.size;
    }

    // ---- sheets

    public int sheet(int s, int form, int n) {
        if (!within(s, SHEETS) || !within(form, FORMS) || n > ITEMS) {
            return BAD;
        }
        if (n < 0) {
            return finding(SIZE);
        }
        sheets[s].make(form, n);
        return n;
    }

    public int lose(int s) {
        if (!within(s, SHEETS)) {
            return BAD;
        }
        Sheet sheet = sheets[s];
        if (sheet.lost) {
            return finding(NULL);
        }
        sheet.lost = true;
        return sheet.size;
    }

    public int lay(int s, int form, int i, int v) {
        if (!within(s, SHEETS) || !within(form, FORMS)) {
            return BAD;
        }
        Sheet sheet = sheets[s];
        int wrong = itemFinding(sheet, form, i);
        if (wrong != 0) {
            return finding(wrong);
        }
        sheet.put(i, v);
        return 1;
    }

    public int get(int s, int form, int i) {
        if (!within(s, SHEETS) || !within(form, FORMS)) {
            return LEAST_INT;
        }
        Sheet sheet = sheets[s];
        int wrong = itemFinding(sheet, form, i);
        if (wrong != 0) {
            latestFinding = wrong;
            return LEAST_INT;
        }
        return sheet.items[i];
    }

    public int copy(int s, int i, int t, int j, int n) {
        if (!within(s, SHEETS) || !within(t, SHEETS)) {
            return BAD;
        }
        Sheet from = sheets[s];
        Sheet to = sheets[t];
        if (from.lost || to.lost) {
            return finding(NULL);
        }
        if (from.form != to.form) {
            return finding(STORE);
        }
        if (!from.hasRun(i, n) || !to.hasRun(j, n)) {
            return finding(INDEX);
        }
        System.arraycopy(from.items, i, to.items, j, n);
        return 1;
    }

    public int write(int strand, int s) {
        if (!isStrand(strand) || !within(s, SHEETS)) {
            return BAD;
        }
        Sheet sheet = sheets[s];
        if (sheet.lost) {
            return finding(NULL);
        }
        int many = Math.min(sheet.size, HOURS);
        for (int hour = 0; hour < many; hour++) {
            sheet.put(hour, told.hangings[strand].states[hour]);
        }
        return many;
    }

    public int count(int what) {
        freshen();
        switch (what) {
            case 0: return deeds.size;
            case 1: return routeText.sound();
            case 2: return strandText.size;
            case 3: return tideText.size;
            case 4: return routeText.size;
            case 5: return events.size;
            case 6: return walk.size;
            case 7: return sightings.size;
            case 8: return latestFinding;
            default: return BAD;
        }
    }

    public long digest() {
        long h = 17;
        for (int what = 0; what <= 7; what++) {
            h = 31 * h + count(what);
        }
        for (int text = 0; text < TEXTS; text++) {
            h = 31 * h + fault(text);
        }
        for (int hour = 0; hour < HOURS; hour++) {
            h = 31 * h + tide(hour);
        }
        int strands = count(0);
        for (int strand = 0; strand < strands; strand++) {
            h = digestTold(h, strand);
            h = digestHour(h, strand, 0);
            h = digestHour(h, strand, 6);
            h = digestHour(h, strand, 12);
            h = digestHour(h, strand, LAST_HOUR);
            h = digestDeed(h, strand);
        }
        for (int i = 0; i < MOST; i++) {
            h = 31 * h + route(i);
            h = 31 * h + reads(i);
        }
        return digestWhole(h);
    }

    // ---- what the calls share

    private static boolean within(int number, int end) {
        return number >= 0 && number < end;
    }

    private static boolean mayBeEvent(int kind, int hour, int strand, int number) {
        return within(kind, 3) && within(hour, HOURS) && within(strand, MOST) && within(number, 10);
    }

    /** The i-th lowest of the bits (0 on); NONE: not so many. */
    private static int bitAt(int bits, int i) {
        int left = i;
        for (int k = 0; k < MOST; k++) {
            if ((bits >> k & 1) != 0) {
                if (left == 0) {
                    return k;
                }
                left--;
            }
        }
        return NONE;
    }

    private static int stateAt(int kind, int hour, int above) {
        if (above < 0) {
            return DRY;
        }
        if (above > (kind == KELP ? 4 : 2)) {
            return UNDER;
        }
        return kind == DULSE && hour < RED_HOURS ? RED : LEGIBLE;
    }

    private Text textOf(int text) {
        return text == 0 ? strandText : text == 1 ? tideText : routeText;
    }

    private boolean isStrand(int strand) {
        freshen();
        return within(strand, deeds.size);
    }

    private int finding(int number) {
        latestFinding = number;
        return -10 - number;
    }

    /** What follows from texts and events is worked out once behind a change, not at each call. */
    private void freshen() {
        if (!stale) {
            return;
        }
        stale = false;
        strandText.faultAt = deeds.parse(strandText);
        deeds.linkAll();
        tideText.faultAt = tideText.firstBeyond('0', '9');
        routeText.faultAt = routeText.firstBeyond('a', 'h');
        int tidesTold = tideText.sound();
        for (int hour = 0; hour < HOURS; hour++) {
            tides[hour] = hour < tidesTold ? tideText.bytes[hour] - '0' : LATER_TIDE;
        }
        told.hangAll(deeds, tides, events);
        walk.go(told, deeds.size, routeText);
        best.stale = true;
    }

    private boolean eventFrom(Sheet sheet, int i) {
        if (i < 0 || i + EVENT_ITEMS > sheet.size) {
            return false;
        }
        int[] items = sheet.items;
        return event(items[i], items[i + 1], items[i + 2], items[i + 3]) > 0;
    }

    private int bladderIn(int hour, int strand, int i) {
        if (told.hangings[strand].states[hour] == EATEN || events.pops(strand, i, hour)) {
            return GONE;
        }
        return deeds.bladderOf(strand, i);
    }

    private int voidBits(Events by, int hour) {
        int bits = 0;
        for (int s = 0; s < deeds.size; s++) {
            if (by.herons(deeds.chains[s], hour) != 0) {
                bits |= 1 << s;
            }
        }
        return bits;
    }

    private int legibleHoursAt(int kind, int high) {
        int hours = 0;
        for (int hour = 0; hour < HOURS; hour++) {
            if (stateAt(kind, hour, tides[hour] - high) == LEGIBLE) {
                hours++;
            }
        }
        return hours;
    }

    private void guessHanging(int strand, int high, int kind, int without) {
        Hanging hanging = guessed.hangings[strand];
        hanging.begin(high, kind);
        hanging.live(strand, tides, events, without);
    }

    /** Whether all that was seen comes out so, with one strand as guessed and the others as told. */
    private boolean comesOut(int strandGuessed) {
        for (int k = 0; k < sightings.size; k++) {
            int strand = sightings.strands[k];
            if (strand >= deeds.size) {
                return false;
            }
            Shore shore = strand == strandGuessed ? guessed : told;
            if (shore.hangings[strand].states[sightings.hours[k]] != sightings.states[k]) {
                return false;
            }
        }
        return true;
    }

    private int hungBits(int strand) {
        int bits = 0;
        for (int high = 0; high < HEIGHTS; high++) {
            guessHanging(strand, high, deeds.kinds[strand], NONE);
            if (comesOut(strand)) {
                bits |= 1 << high;
            }
        }
        return bits;
    }

    private int sortBits(int strand) {
        int bits = 0;
        for (int kind = 0; kind < KINDS; kind++) {
            guessHanging(strand, deeds.highs[strand], kind, NONE);
            if (comesOut(strand)) {
                bits |= 1 << kind;
            }
        }
        return bits;
    }

    private static int itemFinding(Sheet sheet, int form, int i) {
        if (sheet.lost) {
            return NULL;
        }
        if (sheet.form != form) {
            return CAST;
        }
        return within(i, sheet.size) ? 0 : INDEX;
    }

    private long digestTold(long start, int strand) {
        long h = start;
        for (int what = 0; what < 3 + BLADDERS; what++) {
            h = 31 * h + strand(strand, what);
        }
        return h;
    }

    private long digestHour(long start, int strand, int hour) {
        long h = start;
        h = 31 * h + state(hour, strand, 0);
        h = 31 * h + state(hour, strand, 1);
        h = 31 * h + says(hour, strand, 0);
        h = 31 * h + fill(hour, strand, NONE);
        return 31 * h + fill(hour, strand, 0);
    }

    private long digestDeed(long start, int strand) {
        long h = start;
        h = 31 * h + deed(strand, 0);
        h = 31 * h + deed(strand, 1);
        h = 31 * h + save(strand, NONE);
        h = 31 * h + save(strand, 0);
        h = 31 * h + was(strand, 0);
        h = 31 * h + was(strand, 1);
        h = 31 * h + ask(strand);
        h = 31 * h + risk(5, strand, 15, 0);
        return 31 * h + risk(5, strand, 15, 1);
    }

    private long digestWhole(long start) {
        long h = start;
        h = 31 * h + voids(5);
        h = 31 * h + voids(LAST_HOUR);
        h = 31 * h + forged();
        h = 31 * h + tangled(0);
        h = 31 * h + tangled(1);
        for (int what = 0; what <= 3; what++) {
            h = 31 * h + tour(what);
        }
        for (int kind = 0; kind < KINDS; kind++) {
            h = 31 * h + hang(kind, 0);
            h = 31 * h + hang(kind, 1);
        }
        h = 31 * h + never();
        h = 31 * h + century(7, 6, 0);
        return 31 * h + century(7, 6, 1);
    }

    // ---- classes

    private static final class Text {
        final int[] bytes = new int[TEXT_ROOM];
        final int most;
        int size;
        int faultAt = NONE;

        Text(int most) {
            this.most = Math.min(most, TEXT_ROOM);
        }

        /** The place of the first byte that is not from least to last; NONE. */
        int firstBeyond(int least, int last) {
            for (int i = 0; i < size; i++) {
                if (bytes[i] < least || bytes[i] > last) {
                    return i;
                }
            }
            return NONE;
        }

        /** How many bytes count: with a fault it is as if the text was empty. */
        int sound() {
            return faultAt == NONE ? size : 0;
        }
    }

    /** The strands as told. */
    private static final class Deeds {
        int size;
        final int[] highs = new int[MOST];
        final int[] kinds = new int[MOST];
        final int[] lengths = new int[MOST];
        final int[] bladders = new int[MOST * BLADDERS];
        final int[] ons = new int[MOST];
        /** Of each strand, as bits: itself, what it hangs on, what that hangs on, and so on. */
        final int[] chains = new int[MOST];
        /** How many bytes of a strand have come: 0 stands for one that has not begun. */
        private int place;

        int bladderOf(int strand, int i) {
            return bladders[strand * BLADDERS + i];
        }

        /** Takes a text in; answers its fault. */
        int parse(Text text) {
            size = 0;
            place = 0;
            int fault = NONE;
            for (int i = 0; i < text.size && fault == NONE; i++) {
                if (!takes(text.bytes[i])) {
                    fault = i;
                }
            }
            if (fault == NONE && text.size > 0 && place < 3) {
                fault = text.size;
            }
            if (fault != NONE) {
                size = 0;
            }
            return fault;
        }

        private boolean takes(int b) {
            if (place == 0) {
                return takesFigure(b);
            }
            if (place == 1) {
                return takesKind(b);
            }
            if (b == ';' && place > 2) {
                place = 0;
                return true;
            }
            return takesBladder(b);
        }

        private boolean takesFigure(int b) {
            if (size >= MOST || b < '0' || b > '9') {
                return false;
            }
            highs[size] = b - '0';
            lengths[size] = 0;
            size++;
            place = 1;
            return true;
        }

        private boolean takesKind(int b) {
            int kind = b == 'w' ? 0 : b == 'k' ? KELP : b == 'd' ? DULSE : NONE;
            if (kind == NONE || size < 1) {
                return false;
            }
            kinds[size - 1] = kind;
            place = 2;
            return true;
        }

        private boolean takesBladder(int b) {
            if (b < 'a' || b > 'd' || place - 2 >= BLADDERS || size < 1) {
                return false;
            }
            bladders[(size - 1) * BLADDERS + place - 2] = b - 'a';
            lengths[size - 1] = place - 1;
            place++;
            return true;
        }

        /** Finds what hangs on what. */
        void linkAll() {
            for (int s = 0; s < size; s++) {
                ons[s] = onOf(s);
            }
            for (int s = 0; s < size; s++) {
                chains[s] = chainOf(s);
            }
        }

        private int onOf(int strand) {
            if (lengths[strand] < 1) {
                return NONE;
            }
            int last = bladderOf(strand, lengths[strand] - 1);
            for (int s = 0; s < size; s++) {
                if (s != strand && bladderOf(s, 0) == last) {
                    return s;
                }
            }
            return NONE;
        }

        private int chainOf(int strand) {
            int chain = 0;
            int s = strand;
            // So many steps meet all of it, also where it comes round.
            for (int k = 0; k < MOST && s != NONE; k++) {
                chain |= 1 << s;
                s = ons[s];
            }
            return chain;
        }

        boolean inTwos(int strand) {
            if (lengths[strand] % 2 != 0) {
                return false;
            }
            for (int i = 0; i + 1 < lengths[strand]; i += 2) {
                if (bladderOf(strand, i) != bladderOf(strand, i + 1)) {
                    return false;
                }
            }
            return true;
        }

        int commonRun(int s, int t) {
            int longest = 0;
            for (int i = 0; i < lengths[s]; i++) {
                for (int j = 0; j < lengths[t]; j++) {
                    longest = Math.max(longest, runFrom(s, i, t, j));
                }
            }
            return longest;
        }

        private int runFrom(int s, int i, int t, int j) {
            int run = 0;
            while (i + run < lengths[s] && j + run < lengths[t]
                    && bladderOf(s, i + run) == bladderOf(t, j + run)) {
                run++;
            }
            return run;
        }
    }

    private static final class Events {
        int size;
        final int[] kinds = new int[MOST];
        final int[] hours = new int[MOST];
        final int[] strands = new int[MOST];
        final int[] numbers = new int[MOST];
        private int seed;

        void tell(int kind, int hour, int strand, int number) {
            if (size >= MOST) {
                return;
            }
            kinds[size] = kind;
            hours[size] = hour;
            strands[size] = strand;
            numbers[size] = number;
            size++;
        }

        boolean pops(int strand, int bladder, int hour) {
            for (int e = 0; e < size; e++) {
                if (kinds[e] == POP && hours[e] <= hour && strands[e] == strand && numbers[e] == bladder) {
                    return true;
                }
            }
            return false;
        }

        /** Which events are herons up to an hour on any strand of a chain, as bits. */
        int herons(int chain, int hour) {
            int bits = 0;
            for (int e = 0; e < size; e++) {
                if (kinds[e] == HERON && hours[e] <= hour && (chain >> strands[e] & 1) != 0) {
                    bits |= 1 << e;
                }
            }
            return bits;
        }

        void draw(int firstSeed, int n, int strandsThere) {
            size = 0;
            seed = firstSeed;
            for (int k = 0; k < n && strandsThere > 0; k++) {
                int kind = lot(3);
                int hour = lot(HOURS);
                int strand = lot(strandsThere);
                tell(kind, hour, strand, lot(10));
            }
        }

        private int lot(int m) {
            seed = 1103515245 * seed + 12345;
            return m > 0 ? (seed >>> 16) % m : 0;
        }
    }

    /** One strand through all hours. */
    private static final class Hanging {
        final int[] highs = new int[HOURS];
        final int[] states = new int[HOURS];
        private int high;
        private int kind;
        private boolean eaten;

        void begin(int highAsTold, int kindAsTold) {
            high = highAsTold;
            kind = kindAsTold;
            eaten = false;
        }

        /** Lives through all hours, as if one event (NONE: none) had not been. */
        void live(int strand, int[] tides, Events events, int without) {
            for (int hour = 0; hour < HOURS; hour++) {
                for (int e = 0; e < events.size; e++) {
                    if (events.hours[e] == hour && events.strands[e] == strand && e != without) {
                        suffer(events.kinds[e], events.numbers[e]);
                    }
                }
                highs[hour] = high;
                states[hour] = eaten ? EATEN : stateAt(kind, hour, tides[hour] - high);
            }
        }

        private void suffer(int event, int number) {
            if (event == HERON) {
                eaten = true;
            } else if (event == STORM) {
                high = number;
            }
        }

        int legibleHours() {
            int hours = 0;
            for (int hour = 0; hour < HOURS; hour++) {
                if (states[hour] == LEGIBLE) {
                    hours++;
                }
            }
            return hours;
        }
    }

    private static final class Shore {
        final Hanging[] hangings = new Hanging[MOST];

        Shore() {
            for (int s = 0; s < MOST; s++) {
                hangings[s] = new Hanging();
            }
        }

        void hangAll(Deeds deeds, int[] tides, Events events) {
            for (int s = 0; s < deeds.size; s++) {
                hangings[s].begin(deeds.highs[s], deeds.kinds[s]);
                hangings[s].live(s, tides, events, NONE);
            }
        }

        /** When a clerk reads a strand who sets out for it in an hour, so high; NONE. */
        int nextRead(int strand, int hour, int high) {
            if (hour < 0 || hour >= HOURS) {
                return NONE;
            }
            Hanging hanging = hangings[strand];
            int goal = hanging.highs[hour];
            for (int h = hour + Math.abs(goal - high); h < HOURS; h++) {
                if (hanging.states[h] == LEGIBLE && hanging.highs[h] == goal) {
                    return h;
                }
            }
            return NONE;
        }
    }

    /** The route as it is read. */
    private static final class Walk {
        int size;
        final int[] hours = new int[MOST];

        void go(Shore shore, int strandsThere, Text route) {
            size = 0;
            int setOut = 0;
            int high = 0;
            int stops = Math.min(route.sound(), MOST);
            for (int i = 0; i < stops; i++) {
                int strand = route.bytes[i] - 'a';
                if (!within(strand, strandsThere)) {
                    return;
                }
                Hanging hanging = shore.hangings[strand];
                int hour = shore.nextRead(strand, setOut, i == 0 ? hanging.highs[0] : high);
                if (hour == NONE) {
                    return;
                }
                hours[i] = hour;
                high = hanging.highs[hour];
                setOut = hour + 1;
                size++;
            }
        }
    }

    private static final class Tour {
        int size;
        int lastHour;
        final int[] row = new int[MOST];
        boolean stale = true;
        private final int[] tried = new int[MOST];
        /** Of each set of strands read and the last of them, the hours met so far, as bits. */
        private final int[] met = new int[(1 << MOST) * MOST];
        private int strands;

        void look(Shore shore, int strandsThere) {
            if (!stale) {
                return;
            }
            stale = false;
            size = 0;
            lastHour = NONE;
            strands = Math.min(strandsThere, MOST);
            Arrays.fill(met, 0);
            for (int s = 0; s < strands; s++) {
                visit(this, shore, s, shore.nextRead(s, 0, shore.hangings[s].highs[0]), 0, 0);
            }
        }

        /**
         * Reads a strand in an hour behind those in set. Rows are tried from the least on; one that comes to
         * the same set, last strand and hour as an earlier one can only go on as that did, and is left.
         */
        private static void visit(Tour tour, Shore shore, int strand, int hour, int set, int depth) {
            int now = set | 1 << strand;
            int at = now * MOST + strand;
            if (hour == NONE || depth >= MOST || (tour.met[at] >> hour & 1) != 0) {
                return;
            }
            tour.met[at] |= 1 << hour;
            tour.tried[depth] = strand;
            tour.keepIfBetter(depth + 1, hour);
            if (!tour.mayGetBetter(depth + 1, hour)) {
                return;
            }
            int high = shore.hangings[strand].highs[hour];
            for (int s = 0; s < tour.strands; s++) {
                if ((now >> s & 1) == 0) {
                    visit(tour, shore, s, shore.nextRead(s, hour + 1, high), now, depth + 1);
                }
            }
        }

        /** Each further strand takes an hour at least: that bounds what can still come of a row. */
        private boolean mayGetBetter(int many, int hour) {
            int end = many + Math.min(strands - many, LAST_HOUR - hour);
            return end > size || end == size && hour + size - many < lastHour;
        }

        private void keepIfBetter(int many, int hour) {
            if (many > size || many == size && hour < lastHour) {
                size = many;
                lastHour = hour;
                System.arraycopy(tried, 0, row, 0, many);
            }
        }
    }

    private static final class Sightings {
        int size;
        final int[] hours = new int[MOST];
        final int[] strands = new int[MOST];
        final int[] states = new int[MOST];
        /** Of each hour and what a strand may be in it, by how many heights it is so. */
        final int[] alike = new int[HOURS * STATES];

        void tell(int hour, int strand, int state) {
            if (size >= MOST) {
                return;
            }
            hours[size] = hour;
            strands[size] = strand;
            states[size] = state;
            size++;
        }

        void addAlike(int[] statesByHour) {
            for (int hour = 0; hour < HOURS; hour++) {
                alike[hour * STATES + statesByHour[hour]]++;
            }
        }

        int mostAlike(int hour) {
            int most = 0;
            for (int state = 0; state < STATES; state++) {
                most = Math.max(most, alike[hour * STATES + state]);
            }
            return most;
        }
    }

    /** The ways in which the bladders that are gone might be filled. */
    private static final class Filling {
        final int[] known = new int[BLADDERS];
        /** Of each place and letter there, in how many ways it goes on to the end. */
        private final int[] onward = new int[BLADDERS * LETTERS];
        private int length;

        void begin(int bladders) {
            length = Math.min(bladders, BLADDERS);
        }

        void reckon() {
            for (int i = length - 1; i >= 0; i--) {
                for (int letter = 0; letter < LETTERS; letter++) {
                    boolean might = known[i] == GONE || known[i] == letter;
                    onward[i * LETTERS + letter] = might ? waysBehind(i, letter) : 0;
                }
            }
        }

        private int waysBehind(int i, int letter) {
            return i + 1 >= length ? 1 : sumBut(i + 1, letter);
        }

        private int sumBut(int i, int unlike) {
            int sum = 0;
            for (int letter = 0; letter < LETTERS; letter++) {
                if (letter != unlike) {
                    sum += onward[i * LETTERS + letter];
                }
            }
            return sum;
        }

        int ways() {
            return sumBut(0, NONE);
        }

        int leastAt(int i) {
            if (i >= length) {
                return NONE;
            }
            int letter = NONE;
            for (int k = 0; k <= i; k++) {
                letter = leastBut(k, letter);
                if (letter == NONE) {
                    return NONE;
                }
            }
            return letter;
        }

        private int leastBut(int i, int unlike) {
            for (int letter = 0; letter < LETTERS; letter++) {
                if (letter != unlike && onward[i * LETTERS + letter] > 0) {
                    return letter;
                }
            }
            return NONE;
        }
    }

    private static final class Sheet {
        boolean lost = true;
        int form;
        int size;
        final int[] items = new int[ITEMS];

        void make(int newForm, int n) {
            lost = false;
            form = newForm;
            size = Math.max(0, Math.min(n, ITEMS));
            Arrays.fill(items, 0);
        }

        void put(int i, int v) {
            if (within(i, size)) {
                items[i] = form == 0 ? (byte) v : form == 1 ? (short) v : v;
            }
        }

        boolean hasRun(int i, int n) {
            return i >= 0 && n >= 0 && n <= size && i <= size - n;
        }
    }
}
