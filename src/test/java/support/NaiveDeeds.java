import java.math.BigInteger;
import java.util.ArrayList;
import java.util.HashSet;
import java.util.List;
import java.util.Set;
import java.util.regex.Matcher;
import java.util.regex.Pattern;

/**
 * The document once more, as plainly as it can be put: everything is worked out anew by trying all there is.
 * It shares no code and no shortcut with WrackDeeds, so that the two may be held against each other.
 */
final class NaiveDeeds {
    static final int NONE = -1, BAD = -2, NOT = -3, FULL = -4;
    private static final int[] ROOM = {71, 20, 8};
    private static final String ONE = "[0-9][wkd][a-d]{1,6}";
    private static final Pattern WELL = Pattern.compile(ONE + "(;" + ONE + "){0,7}");
    private static final Pattern ON_THE_WAY = Pattern.compile(ONE + "(;" + ONE + "){0,7};?");

    private record Event(int kind, int hour, int strand, int number) { }
    private record Sighting(int hour, int strand, int state) { }
    private record Strand(int high, int kind, String bladders) { }

    private final StringBuilder[] texts = {new StringBuilder(), new StringBuilder(), new StringBuilder()};
    private final List<Event> events = new ArrayList<>();
    private final List<Sighting> sightings = new ArrayList<>();
    private final Object[] sheets = new Object[4];
    private int latest = 0;

    /** What is where in each hour, by going through the hours. */
    private static final class World {
        final int[][] high, state;
        final boolean[][] eaten;
        final boolean[][][] popped;

        World(List<Strand> strands, int[] tides, List<Event> events) {
            int n = strands.size();
            high = new int[20][n];
            state = new int[20][n];
            eaten = new boolean[20][n];
            popped = new boolean[20][n][6];
            int[] highNow = new int[n];
            boolean[] eatenNow = new boolean[n];
            boolean[][] poppedNow = new boolean[n][6];
            for (int s = 0; s < n; s++) highNow[s] = strands.get(s).high;
            for (int hour = 0; hour < 20; hour++) {
                for (Event e : events) {
                    if (e.hour != hour || e.strand >= n) continue;
                    switch (e.kind) {
                        case 0 -> { if (e.number < strands.get(e.strand).bladders.length()) poppedNow[e.strand][e.number] = true; }
                        case 1 -> eatenNow[e.strand] = true;
                        default -> highNow[e.strand] = e.number;
                    }
                }
                for (int s = 0; s < n; s++) {
                    high[hour][s] = highNow[s];
                    eaten[hour][s] = eatenNow[s];
                    popped[hour][s] = poppedNow[s].clone();
                    state[hour][s] = stateOf(strands.get(s).kind, tides[hour] - highNow[s], hour, eatenNow[s]);
                }
            }
        }

        private static int stateOf(int kind, int above, int hour, boolean eaten) {
            if (eaten) return 3;
            if (above < 0) return 0;
            if (kind == 1 ? above > 4 : above > 2) return 2;
            if (kind == 2 && hour <= 9) return 4;
            return 1;
        }
    }

    private boolean text(int t) { return t >= 0 && t <= 2; }
    private static boolean in(int v, int least, int last) { return v >= least && v <= last; }
    private int find(int number) { latest = number; return -10 - number; }

    // The last text taken in is kept with its strands: all else asks for these time and again.
    private String strandsOf = "";
    private List<Strand> strandsThen = List.of();

    private List<Strand> strands() {
        String now = texts[0].toString();
        if (now.equals(strandsOf)) return strandsThen;
        List<Strand> all = new ArrayList<>();
        if (fault(0) == NONE && !now.isEmpty()) {
            for (String s : now.split(";")) all.add(new Strand(s.charAt(0) - '0', "wkd".indexOf(s.charAt(1)), s.substring(2)));
        }
        strandsOf = now;
        strandsThen = all;
        return all;
    }
    private boolean isStrand(int s) { return in(s, 0, strands().size() - 1); }
    private int[] tides() {
        int[] row = new int[20];
        for (int h = 0; h < 20; h++) row[h] = tide(h);
        return row;
    }
    private List<Integer> theRoute() {
        List<Integer> row = new ArrayList<>();
        if (fault(2) == NONE) for (int i = 0; i < texts[2].length(); i++) row.add(texts[2].charAt(i) - 'a');
        return row;
    }
    private World world() { return new World(strands(), tides(), events); }

    private List<Event> without(int... which) {
        List<Event> some = new ArrayList<>();
        for (int e = 0; e < events.size(); e++) {
            boolean out = false;
            for (int w : which) out |= w == e;
            if (!out) some.add(events.get(e));
        }
        return some;
    }

    int type(int t, int b) {
        if (!text(t) || !in(b, 0, 255)) return BAD;
        if (texts[t].length() == ROOM[t]) return FULL;
        return texts[t].append((char) b).length();
    }
    int wipe(int t) {
        if (!text(t)) return BAD;
        int had = texts[t].length();
        texts[t].setLength(0);
        return had;
    }
    int undo(int t) {
        if (!text(t)) return BAD;
        if (texts[t].length() == 0) return NOT;
        texts[t].setLength(texts[t].length() - 1);
        return texts[t].length();
    }
    int fault(int t) {
        if (!text(t)) return BAD;
        String all = texts[t].toString();
        if (all.isEmpty()) return NONE;
        if (t > 0) {
            for (int i = 0; i < all.length(); i++) if ((t == 1 ? "0123456789" : "abcdefgh").indexOf(all.charAt(i)) < 0) return i;
            return NONE;
        }
        for (int end = 1; end <= all.length(); end++) {
            Matcher m = ON_THE_WAY.matcher(all.substring(0, end));
            if (!m.matches() && !m.hitEnd()) return end - 1;
        }
        return WELL.matcher(all).matches() ? NONE : all.length();
    }
    int strand(int s, int what) {
        if (!isStrand(s) || !in(what, 0, 8)) return BAD;
        Strand it = strands().get(s);
        if (what == 0) return it.high;
        if (what == 1) return it.kind;
        if (what == 2) return it.bladders.length();
        return what - 3 < it.bladders.length() ? it.bladders.charAt(what - 3) - 'a' : NONE;
    }
    int tide(int hour) {
        if (!in(hour, 0, 19)) return BAD;
        return fault(1) == NONE && hour < texts[1].length() ? texts[1].charAt(hour) - '0' : 5;
    }
    int route(int i) {
        if (!in(i, 0, 7)) return BAD;
        return i < theRoute().size() ? theRoute().get(i) : NONE;
    }
    int event(int kind, int hour, int s, int number) {
        if (!in(kind, 0, 2) || !in(hour, 0, 19) || !in(s, 0, 7) || !in(number, 0, 9)) return BAD;
        if (events.size() == 8) return FULL;
        events.add(new Event(kind, hour, s, number));
        return events.size();
    }
    int back() {
        if (events.isEmpty()) return NOT;
        events.remove(events.size() - 1);
        return events.size();
    }
    int read(int s) {
        if (!in(s, 0, 3)) return BAD;
        if (sheets[s] == null) return find(1);
        int came = 0;
        for (int i = 0; i + 4 <= length(s); i += 4) {
            if (event(item(s, i), item(s, i + 1), item(s, i + 2), item(s, i + 3)) < 0) break;
            came++;
        }
        return came;
    }

    int state(int hour, int s, int what) {
        if (!in(hour, 0, 19) || !isStrand(s) || !in(what, 0, 1)) return BAD;
        return what == 0 ? world().state[hour][s] : world().high[hour][s];
    }
    int says(int hour, int s, int i) {
        if (!in(hour, 0, 19) || !isStrand(s) || !in(i, 0, 5)) return BAD;
        String b = strands().get(s).bladders;
        if (i >= b.length()) return NONE;
        return says(world(), b, hour, s, i);
    }
    private static int says(World w, String b, int hour, int s, int i) {
        return w.eaten[hour][s] || w.popped[hour][s][i] ? 4 : b.charAt(i) - 'a';
    }
    private int on(int s) {
        List<Strand> all = strands();
        String own = all.get(s).bladders;
        for (int t = 0; t < all.size(); t++) if (t != s && all.get(t).bladders.charAt(0) == own.charAt(own.length() - 1)) return t;
        return NONE;
    }
    int deed(int s, int what) {
        if (!isStrand(s) || !in(what, 0, 1)) return BAD;
        if (what == 1) return on(s);
        int many = 0;
        World w = world();
        for (int h = 0; h < 20; h++) if (w.state[h][s] == 1) many++;
        return many;
    }
    private Set<Integer> voidBehind(int hour, List<Event> told) {
        List<Strand> all = strands();
        Set<Integer> set = new HashSet<>();
        for (Event e : told) if (e.kind == 1 && e.hour <= hour && e.strand < all.size()) set.add(e.strand);
        for (boolean more = true; more; ) {
            more = false;
            for (int s = 0; s < all.size(); s++) if (!set.contains(s) && set.contains(on(s))) more = set.add(s);
        }
        return set;
    }
    int voids(int hour) {
        if (!in(hour, 0, 19)) return BAD;
        int bits = 0;
        for (int s : voidBehind(hour, events)) bits |= 1 << s;
        return bits;
    }
    int forged() {
        int bits = 0;
        List<Strand> all = strands();
        for (int s = 0; s < all.size(); s++) if (all.get(s).bladders.matches("(aa|bb|cc|dd)+")) bits |= 1 << s;
        return bits;
    }
    int tangled(int what) {
        if (!in(what, 0, 1)) return BAD;
        List<Strand> all = strands();
        int pairs = 0, longest = 0;
        for (int s = 0; s < all.size(); s++) for (int t = 0; t < s; t++) {
            String one = all.get(s).bladders, other = all.get(t).bladders;
            int run = 0;
            for (int i = 0; i <= one.length(); i++) for (int j = i + 2; j <= one.length(); j++)
                if (other.contains(one.substring(i, j))) run = Math.max(run, j - i);
            if (run > 0) pairs++;
            longest = Math.max(longest, run);
        }
        return what == 0 ? pairs : longest;
    }
    private List<Integer> readHours(List<Integer> row, World w) {
        List<Integer> hours = new ArrayList<>();
        int hour = 0, high = NONE;
        for (int s : row) {
            if (hour > 19 || s >= w.state[0].length) break;
            if (high == NONE) high = w.high[0][s];
            int goal = w.high[hour][s];
            hour += Math.abs(goal - high);
            high = goal;
            while (hour <= 19 && !(w.state[hour][s] == 1 && w.high[hour][s] == goal)) hour++;
            if (hour > 19) break;
            hours.add(hour);
            hour++;
        }
        return hours;
    }
    int reads(int i) {
        if (!in(i, 0, 8)) return BAD;
        List<Integer> hours = readHours(theRoute(), world());
        return i == 8 ? hours.size() : i < hours.size() ? hours.get(i) : NONE;
    }

    private List<Integer> bestRow;
    private int bestHour;
    private void tryRows(List<Integer> row, World w, int n) {
        List<Integer> hours = readHours(row, w);
        if (hours.size() < row.size()) return;
        int last = hours.isEmpty() ? NONE : hours.get(hours.size() - 1);
        if (row.size() > bestRow.size() || row.size() == bestRow.size() && last < bestHour) {
            bestRow = new ArrayList<>(row);
            bestHour = last;
        }
        for (int s = 0; s < n; s++) {
            if (row.contains(s)) continue;
            row.add(s);
            tryRows(row, w, n);
            row.remove(row.size() - 1);
        }
    }
    private String bestFor = "";
    int tour(int what) {
        if (!in(what, 0, 9)) return BAD;
        String now = strands() + "" + theTides() + events;
        if (!now.equals(bestFor)) {
            bestFor = now;
            bestRow = new ArrayList<>();
            bestHour = NONE;
            tryRows(new ArrayList<>(), world(), strands().size());
        }
        if (what == 0) return bestRow.size();
        if (what == 1) return bestHour;
        return what - 2 < bestRow.size() ? bestRow.get(what - 2) : NONE;
    }
    private List<Integer> theTides() {
        List<Integer> row = new ArrayList<>();
        for (int t : tides()) row.add(t);
        return row;
    }
    int hang(int kind, int what) {
        if (!in(kind, 0, 2) || !in(what, 0, 1)) return BAD;
        int where = NONE, most = NONE;
        for (int high = 0; high <= 9; high++) {
            World w = new World(List.of(new Strand(high, kind, "a")), tides(), List.of());
            int many = 0;
            for (int h = 0; h < 20; h++) if (w.state[h][0] == 1) many++;
            if (many > most) { most = many; where = high; }
        }
        return what == 0 ? where : most;
    }
    private List<Integer> saving(int s) {
        if (!voidBehind(19, events).contains(s)) return List.of();
        for (int a = 0; a < events.size(); a++) if (!voidBehind(19, without(a)).contains(s)) return List.of(a);
        for (int a = 0; a < events.size(); a++) for (int b = a + 1; b < events.size(); b++)
            if (!voidBehind(19, without(a, b)).contains(s)) return List.of(a, b);
        return null;
    }
    int save(int s, int i) {
        if (!isStrand(s) || !in(i, -1, 1)) return BAD;
        List<Integer> row = saving(s);
        if (row == null) return NONE;
        return i == NONE ? row.size() : i < row.size() ? row.get(i) : NONE;
    }
    int fill(int hour, int s, int i) {
        if (!in(hour, 0, 19) || !isStrand(s) || !in(i, -1, 5)) return BAD;
        String b = strands().get(s).bladders;
        int ways = 0;
        String least = null;
        World w = world();
        for (int code = 0; code < 1 << 2 * b.length(); code++) {
            StringBuilder way = new StringBuilder();
            boolean well = true;
            for (int k = 0; k < b.length(); k++) {
                int letter = code >> 2 * (b.length() - 1 - k) & 3;
                int is = says(w, b, hour, s, k);
                way.append((char) ('a' + letter));
                well &= (is == 4 || is == letter) && (k == 0 || way.charAt(k - 1) != way.charAt(k));
                if (!well) break;
            }
            if (!well) continue;
            ways++;
            if (least == null) least = way.toString();
        }
        if (i == NONE) return ways;
        return least == null || i >= b.length() ? NONE : least.charAt(i) - 'a';
    }

    int seen(int hour, int s, int state) {
        if (!in(hour, 0, 19) || !in(s, 0, 7) || !in(state, 0, 4)) return BAD;
        if (sightings.size() == 8) return FULL;
        sightings.add(new Sighting(hour, s, state));
        return sightings.size();
    }
    int forget() {
        int had = sightings.size();
        sightings.clear();
        return had;
    }
    private boolean comesOut(World w) {
        for (Sighting x : sightings) if (x.strand >= w.state[0].length || w.state[x.hour][x.strand] != x.state) return false;
        return true;
    }
    int never() {
        int bits = 0;
        for (int e = 0; e < events.size(); e++) if (comesOut(new World(strands(), tides(), without(e)))) bits |= 1 << e;
        return bits;
    }
    private World with(int s, Strand other) {
        List<Strand> all = new ArrayList<>(strands());
        all.set(s, other);
        return new World(all, tides(), events);
    }
    int was(int s, int what) {
        if (!isStrand(s) || !in(what, 0, 1)) return BAD;
        Strand own = strands().get(s);
        int bits = 0;
        for (int v = 0; v < (what == 0 ? 10 : 3); v++) {
            Strand other = what == 0 ? new Strand(v, own.kind, own.bladders) : new Strand(own.high, v, own.bladders);
            if (comesOut(with(s, other))) bits |= 1 << v;
        }
        return bits;
    }
    int ask(int s) {
        if (!isStrand(s)) return BAD;
        Strand own = strands().get(s);
        int hungAt = was(s, 0), best = NONE, least = 99;
        World[] worlds = new World[10];
        for (int v = 0; v < 10; v++) worlds[v] = with(s, new Strand(v, own.kind, own.bladders));
        for (int h = 0; h < 20; h++) {
            int[] like = new int[5];
            for (int v = 0; v < 10; v++) if ((hungAt >> v & 1) == 1) like[worlds[v].state[h][s]]++;
            int greatest = 0;
            for (int k : like) greatest = Math.max(greatest, k);
            if (greatest < least) { least = greatest; best = h; }
        }
        return best;
    }
    long risk(int c, int s, int hour, int what) {
        if (!in(c, 0, 16) || !isStrand(s) || !in(hour, 0, 19) || !in(what, 0, 1)) return Long.MIN_VALUE + 2;
        int n = events.size();
        BigInteger above = BigInteger.ZERO, below = BigInteger.valueOf(16).pow(n);
        for (int set = 0; set < 1 << n; set++) {
            List<Event> some = new ArrayList<>();
            BigInteger chance = BigInteger.ONE;
            for (int e = 0; e < n; e++) {
                boolean is = (set >> e & 1) == 1;
                if (is) some.add(events.get(e));
                chance = chance.multiply(BigInteger.valueOf(is ? c : 16 - c));
            }
            if (chance.signum() != 0 && voidBehind(hour, some).contains(s)) above = above.add(chance);
        }
        BigInteger by = above.gcd(below);
        return (what == 0 ? above : below).divide(by).longValueExact();
    }
    private int seed;
    private int lot(int m) {
        seed = seed * 1103515245 + 12345;
        return (int) ((seed & 0xffffffffL) >> 16) % m;
    }
    int century(int from, int n, int what) {
        if (!in(n, 0, 8) || !in(what, 0, 1)) return BAD;
        seed = from;
        List<Event> drawn = new ArrayList<>();
        List<Strand> all = strands();
        if (!all.isEmpty()) for (int k = 0; k < n; k++) {
            int kind = lot(3), hour = lot(20), s = lot(all.size()), number = lot(10);
            drawn.add(new Event(kind, hour, s, number));
        }
        if (what == 0) return voidBehind(19, drawn).size();
        return readHours(theRoute(), new World(all, tides(), drawn)).size();
    }

    // Sheets are Java's own arrays here, and findings are what the machine throws: a test may do so.
    private int form(int s) { return sheets[s] instanceof byte[] ? 0 : sheets[s] instanceof short[] ? 1 : 2; }
    private int length(int s) { return java.lang.reflect.Array.getLength(sheets[s]); }
    private int item(int s, int i) { return java.lang.reflect.Array.getInt(sheets[s], i); }

    int sheet(int s, int form, int n) {
        if (!in(s, 0, 3) || !in(form, 0, 2) || n > 60) return BAD;
        try {
            sheets[s] = form == 0 ? new byte[n] : form == 1 ? new short[n] : new int[n];
        } catch (NegativeArraySizeException e) {
            return find(5);
        }
        return n;
    }
    int lose(int s) {
        if (!in(s, 0, 3)) return BAD;
        if (sheets[s] == null) return find(1);
        int had = length(s);
        sheets[s] = null;
        return had;
    }
    int lay(int s, int form, int i, int v) {
        if (!in(s, 0, 3) || !in(form, 0, 2)) return BAD;
        try {
            if (sheets[s] == null) throw new NullPointerException();
            if (form == 0) ((byte[]) sheets[s])[i] = (byte) v;
            else if (form == 1) ((short[]) sheets[s])[i] = (short) v;
            else ((int[]) sheets[s])[i] = v;
        } catch (NullPointerException e) {
            return find(1);
        } catch (ClassCastException e) {
            return find(3);
        } catch (ArrayIndexOutOfBoundsException e) {
            return find(2);
        }
        return 1;
    }
    int get(int s, int form, int i) {
        if (!in(s, 0, 3) || !in(form, 0, 2)) return Integer.MIN_VALUE;
        try {
            if (sheets[s] == null) throw new NullPointerException();
            return form == 0 ? ((byte[]) sheets[s])[i] : form == 1 ? ((short[]) sheets[s])[i] : ((int[]) sheets[s])[i];
        } catch (NullPointerException e) {
            find(1);
        } catch (ClassCastException e) {
            find(3);
        } catch (ArrayIndexOutOfBoundsException e) {
            find(2);
        }
        return Integer.MIN_VALUE;
    }
    int copy(int s, int i, int t, int j, int n) {
        if (!in(s, 0, 3) || !in(t, 0, 3)) return BAD;
        try {
            System.arraycopy(sheets[s], i, sheets[t], j, n);
        } catch (NullPointerException e) {
            return find(1);
        } catch (ArrayStoreException e) {
            return find(4);
        } catch (ArrayIndexOutOfBoundsException e) {
            return find(2);
        }
        return 1;
    }
    int write(int s, int sheet) {
        if (!isStrand(s) || !in(sheet, 0, 3)) return BAD;
        if (sheets[sheet] == null) return find(1);
        int many = Math.min(20, length(sheet));
        for (int h = 0; h < many; h++) lay(sheet, form(sheet), h, state(h, s, 0));
        return many;
    }
    int count(int what) {
        return switch (what) {
            case 0 -> strands().size();
            case 1 -> theRoute().size();
            case 2, 3, 4 -> texts[what - 2].length();
            case 5 -> events.size();
            case 6 -> reads(8);
            case 7 -> sightings.size();
            case 8 -> latest;
            default -> BAD;
        };
    }
    long digest() {
        List<Long> all = new ArrayList<>();
        for (int k = 0; k <= 7; k++) all.add((long) count(k));
        for (int k = 0; k < 3; k++) all.add((long) fault(k));
        for (int k = 0; k < 20; k++) all.add((long) tide(k));
        for (int s = 0; s < strands().size(); s++) {
            for (int k = 0; k <= 8; k++) all.add((long) strand(s, k));
            for (int h : new int[] {0, 6, 12, 19}) {
                for (int v : new int[] {state(h, s, 0), state(h, s, 1), says(h, s, 0), fill(h, s, NONE), fill(h, s, 0)}) all.add((long) v);
            }
            for (int v : new int[] {deed(s, 0), deed(s, 1), save(s, NONE), save(s, 0), was(s, 0), was(s, 1), ask(s)}) all.add((long) v);
            all.add(risk(5, s, 15, 0));
            all.add(risk(5, s, 15, 1));
        }
        for (int k = 0; k <= 7; k++) {
            all.add((long) route(k));
            all.add((long) reads(k));
        }
        for (int v : new int[] {voids(5), voids(19), forged(), tangled(0), tangled(1), tour(0), tour(1), tour(2), tour(3)}) all.add((long) v);
        for (int k = 0; k < 3; k++) {
            all.add((long) hang(k, 0));
            all.add((long) hang(k, 1));
        }
        for (int v : new int[] {never(), century(7, 6, 0), century(7, 6, 1)}) all.add((long) v);
        long h = 17;
        for (long v : all) h = 31 * h + v;
        return h;
    }
}
