import java.math.BigInteger;
import java.util.ArrayList;
import java.util.Arrays;
import java.util.List;
import java.util.Set;
import java.util.TreeSet;

/**
 * The document written again, in the plainest way and in another one than the class's: sets of places, states
 * kept whole, games played out. Slow, and free to make objects.
 */
final class PlainModel {
    private static final int BAD = -1, FULL = -2, FINDING = -3, STATE = -4, NONE = -9;
    private static final String LETTERS = "ptlchi";

    private static final class Peel {
        char letter;
        int place;
        int length;
        boolean down;
        boolean lifted;

        Peel copy() {
            Peel peel = new Peel();
            peel.letter = letter;
            peel.place = place;
            peel.length = length;
            peel.down = down;
            peel.lifted = lifted;
            return peel;
        }
    }

    private static final class State {
        List<Peel> peels = new ArrayList<>();
        Set<Integer> licked = new TreeSet<>();
        int need;
        int morning;
        int tally;

        State copy() {
            State state = new State();
            for (Peel peel : peels) {
                state.peels.add(peel.copy());
            }
            state.licked.addAll(licked);
            state.need = need;
            state.morning = morning;
            state.tally = tally;
            return state;
        }

        Set<Integer> covered() {
            Set<Integer> places = new TreeSet<>();
            for (Peel peel : peels) {
                if (!peel.lifted) {
                    places.addAll(cover(peel));
                }
            }
            places.removeAll(licked);
            return places;
        }

        int lines() {
            return linesOf(covered());
        }

        int linesOf(Set<Integer> covered) {
            int lines = 0;
            for (int line = 0; line < 8 && !peels.isEmpty(); line++) {
                int many = 0;
                for (int place : covered) {
                    if (line < 4 ? place / 4 == line : place % 4 == line - 4) {
                        many++;
                    }
                }
                if (many >= need) {
                    lines += 1 << line;
                }
            }
            return lines;
        }

        State fallen(int times) {
            State state = copy();
            for (int k = 0; k < times; k++) {
                for (Peel peel : state.peels) {
                    if (!peel.lifted) {
                        peel.place = (5 * peel.place + peel.length + state.morning) % 16;
                        peel.down ^= state.morning % 3 == 2;
                    }
                }
                state.tally += Integer.bitCount(state.lines());
                state.morning++;
            }
            return state;
        }
    }

    private final int[][] rows = new int[6][];
    private final byte[][] texts = new byte[4][];
    /** States: the first is that of the slice, one more for each deed. */
    private List<State> story = new ArrayList<>(List.of(new State()));
    private final List<List<State>> kept = new ArrayList<>(Arrays.asList(null, null, null));
    private int asked = 0;
    private long upper = 0;
    private long lower = 1;
    private int finding = 0;
    private final int[] findings = new int[6];

    private State now() {
        return story.get(story.size() - 1);
    }

    private int find(int f) {
        finding = f;
        findings[f]++;
        return FINDING;
    }

    private int tell(int v, int answer) {
        asked = v;
        return answer;
    }

    private static boolean in(int v, int low, int high) {
        return low <= v && v <= high;
    }

    private static int bits(Set<Integer> set) {
        int bits = 0;
        for (int v : set) {
            bits |= 1 << v;
        }
        return bits;
    }

    private boolean isPeel(int i) {
        return in(i, 0, now().peels.size() - 1);
    }

    private boolean noPeels() {
        return now().peels.isEmpty();
    }

    // what a peel covers

    private static Set<Integer> straight(int place, int length, boolean down) {
        Set<Integer> places = new TreeSet<>();
        int row = place / 4;
        int column = place % 4;
        while (length > 0 && row < 4 && column < 4) {
            places.add(row * 4 + column);
            length--;
            row += down ? 1 : 0;
            column += down ? 0 : 1;
        }
        return places;
    }

    private static Set<Integer> thin(int place, int length, boolean down) {
        List<Integer> all = new ArrayList<>(straight(place, length, down));
        Set<Integer> places = new TreeSet<>();
        places.add(all.get(0));
        if (all.size() > 2) {
            places.add(all.get(2));
        }
        return places;
    }

    private static Set<Integer> cover(Peel peel) {
        Set<Integer> places = new TreeSet<>();
        switch (peel.letter) {
            case 'p':
                return straight(peel.place, peel.length, peel.down);
            case 't':
                return thin(peel.place, peel.length, peel.down);
            case 'l':
                for (int across : straight(peel.place, 2, true)) {
                    places.addAll(straight(across, 2, false));
                }
                return places;
            case 'c':
                places.addAll(straight(peel.place, peel.length, peel.down));
                places.addAll(straight(peel.place, 2, !peel.down));
                return places;
            case 'h':
                places.addAll(thin(peel.place, peel.length, peel.down));
                places.addAll(thin(peel.place, peel.length, !peel.down));
                return places;
            default:
                places.add(peel.place);
                return places;
        }
    }

    private static Set<Integer> coverAs(Peel peel, char letter) {
        Peel other = peel.copy();
        other.letter = letter;
        return cover(other);
    }

    private static int weight(Peel peel) {
        return peel.letter == 'l' || peel.letter == 'i' ? 3 : peel.letter == 'c' ? 2 : 1;
    }

    private static int without(Set<Integer> a, Set<Integer> b) {
        Set<Integer> rest = new TreeSet<>(a);
        rest.removeAll(b);
        return rest.size();
    }

    // 1 rows, texts, slices

    int row(int r, int n) {
        if (!in(r, 0, 5) || n > 40) return BAD;
        if (n < 0) return find(5);
        rows[r] = new int[n];
        return n;
    }

    int lay(int r, int i, int v) {
        if (!in(r, 0, 5)) return BAD;
        if (rows[r] == null) return find(1);
        if (!in(i, 0, rows[r].length - 1)) return find(2);
        int old = rows[r][i];
        rows[r][i] = v;
        return tell(old, 1);
    }

    int at(int r, int i) {
        if (!in(r, 0, 5)) return BAD;
        if (rows[r] == null) return find(1);
        if (!in(i, 0, rows[r].length - 1)) return find(2);
        return tell(rows[r][i], 1);
    }

    int tear(int r) {
        if (!in(r, 0, 5)) return BAD;
        if (rows[r] == null) return find(1);
        rows[r] = null;
        return 1;
    }

    int copy(int r, int i, int to, int j, int n) {
        if (!in(r, 0, 5) || !in(to, 0, 5)) return BAD;
        if (n < 0) return find(5);
        if (rows[r] == null || rows[to] == null) return find(1);
        if (i < 0 || j < 0 || (long) i + n > rows[r].length || (long) j + n > rows[to].length) return find(2);
        int[] ahead = rows[r].clone();
        for (int k = 0; k < n; k++) {
            rows[to][j + k] = ahead[i + k];
        }
        return 1;
    }

    int mean(int r) {
        if (!in(r, 0, 5)) return BAD;
        if (rows[r] == null) return find(1);
        if (rows[r].length == 0) return find(4);
        BigInteger sum = BigInteger.ZERO;
        for (int v : rows[r]) {
            sum = sum.add(BigInteger.valueOf(v));
        }
        return tell(sum.divide(BigInteger.valueOf(rows[r].length)).intValue(), 1);
    }

    int text(int t, int n) {
        if (!in(t, 0, 3) || n > 60) return BAD;
        if (n < 0) return find(5);
        texts[t] = new byte[n];
        Arrays.fill(texts[t], (byte) 32);
        return n;
    }

    int put(int t, int i, int v) {
        if (!in(t, 0, 3)) return BAD;
        if (texts[t] == null) return find(1);
        if (!in(i, 0, texts[t].length - 1)) return find(2);
        int old = texts[t][i];
        texts[t][i] = (byte) v;
        return 1000 + old;
    }

    /** A machine of seven states: ahead, behind n, between, behind a letter, .. */
    private int scan(byte[] text, State into) {
        int state = 0;
        Peel peel = null;
        for (int k = 0; k < text.length; k++) {
            char sign = (char) (text[k] & 255);
            int figure = sign >= '0' && sign <= '9' ? sign - '0' : -1;
            if ((state == 0 || state == 2) && sign == ' ') {
                continue;
            }
            switch (state) {
                case 0:
                    if (sign != 'n') return k;
                    break;
                case 1:
                    if (!in(figure, 1, 4)) return k;
                    into.need = figure;
                    break;
                case 2:
                    if (LETTERS.indexOf(sign) < 0 || into.peels.size() == 6) return k;
                    peel = new Peel();
                    peel.letter = sign;
                    break;
                case 3:
                    if (figure < 0) return k;
                    peel.place = 10 * figure;
                    break;
                case 4:
                    if (figure < 0) return k;
                    peel.place += figure;
                    if (peel.place > 15) return k - 1;
                    break;
                case 5:
                    if (!in(figure, 1, 4)) return k;
                    peel.length = figure;
                    break;
                default:
                    if (!in(figure, 0, 1)) return k;
                    peel.down = figure == 1;
                    into.peels.add(peel);
            }
            state = state == 6 ? 2 : state + 1;
        }
        return state == 2 && !into.peels.isEmpty() ? NONE : text.length;
    }

    int fault(int t) {
        if (!in(t, 0, 3)) return BAD;
        return texts[t] == null ? find(1) : scan(texts[t], new State());
    }

    int slice(int t) {
        if (!in(t, 0, 3)) return BAD;
        if (texts[t] == null) return find(1);
        State state = new State();
        if (scan(texts[t], state) != NONE) return STATE;
        story = new ArrayList<>(List.of(state));
        for (int k = 0; k < 3; k++) {
            kept.set(k, null);
        }
        return state.peels.size();
    }

    private int trait(int i, int what) {
        Peel peel = now().peels.get(i);
        int[] traits = {LETTERS.indexOf(peel.letter), peel.place, peel.length, peel.down ? 1 : 0,
            peel.lifted ? 1 : 0, bits(cover(peel)), weight(peel)};
        return traits[what];
    }

    int peel(int i, int what) {
        return isPeel(i) && in(what, 0, 6) ? tell(trait(i, what), 1) : BAD;
    }

    int mark(int i, int kind) {
        if (!isPeel(i) || !in(kind, 1, 5)) return BAD;
        Peel peel = now().peels.get(i);
        String[] of = {"", "th", "li", "c", "h", "i"};
        if (of[kind].indexOf(peel.letter) < 0) return find(3);
        switch (kind) {
            case 1: return without(coverAs(peel, 'p'), cover(peel));
            case 2: return (int) now().peels.stream().filter(other -> weight(other) == weight(peel)).count();
            case 3: return without(cover(peel), coverAs(peel, 'p'));
            case 4: return without(cover(peel), coverAs(peel, 't'));
            default: return coverAs(peel, 'l').size() - cover(peel).size();
        }
    }

    // 2 deeds

    private boolean isFull(int more) {
        return story.size() - 1 + more > 40;
    }

    private State deed() {
        story.add(now().copy());
        return now();
    }

    int morning() {
        if (noPeels()) return STATE;
        if (isFull(1)) return FULL;
        story.add(now().fallen(1));
        return now().lines();
    }

    int shift(int i, int place) {
        if (!isPeel(i) || !in(place, 0, 15)) return BAD;
        int old = now().peels.get(i).place;
        if (old == place) return STATE;
        if (isFull(1)) return FULL;
        deed().peels.get(i).place = place;
        return old;
    }

    int turn(int i) {
        if (!isPeel(i)) return BAD;
        if (isFull(1)) return FULL;
        Peel peel = deed().peels.get(i);
        peel.down = !peel.down;
        return peel.down ? 1 : 0;
    }

    int lift(int i) {
        if (!isPeel(i)) return BAD;
        if (isFull(1)) return FULL;
        Peel peel = deed().peels.get(i);
        peel.lifted = !peel.lifted;
        return peel.lifted ? 1 : 0;
    }

    int lick(int place) {
        if (!in(place, 0, 15)) return BAD;
        if (noPeels() || now().licked.size() == 8 && !now().licked.contains(place)) return STATE;
        if (isFull(1)) return FULL;
        State state = deed();
        if (state.licked.remove(place)) return 0;
        state.licked.add(place);
        return 1;
    }

    int undo(int n) {
        int deeds = story.size() - 1;
        if (!in(n, 0, deeds)) return BAD;
        story = new ArrayList<>(story.subList(0, n + 1));
        return deeds - n;
    }

    int keep(int k) {
        if (!in(k, 0, 2)) return BAD;
        if (noPeels()) return STATE;
        kept.set(k, new ArrayList<>(story));
        return story.size() - 1;
    }

    int on(int k) {
        if (!in(k, 0, 2)) return BAD;
        if (kept.get(k) == null) return find(1);
        story = new ArrayList<>(kept.get(k));
        return story.size() - 1;
    }

    // 3 what is read

    int covers(int i, int place, int down) {
        if (!isPeel(i) || !in(place, 0, 15) || !in(down, 0, 1)) return BAD;
        Peel peel = now().peels.get(i).copy();
        peel.place = place;
        peel.down = down == 1;
        return bits(cover(peel));
    }

    int covered() {
        return noPeels() ? STATE : tell(now().lines(), bits(now().covered()));
    }

    int weighs(int line) {
        if (!in(line, 0, 7)) return BAD;
        if (noPeels()) return STATE;
        int sum = 0;
        for (Peel peel : now().peels) {
            boolean there = cover(peel).stream().anyMatch(p -> line < 4 ? p / 4 == line : p % 4 == line - 4);
            sum += there && !peel.lifted ? weight(peel) : 0;
        }
        return sum;
    }

    int reads(int n) {
        if (!in(n, 0, 40)) return BAD;
        if (noPeels()) return STATE;
        State then = now().fallen(n);
        return tell(then.tally, then.lines());
    }

    int first(int line) {
        if (!in(line, 0, 7)) return BAD;
        if (noPeels()) return STATE;
        State then = now();
        for (int n = 1; n <= 40; n++) {
            then = then.fallen(1);
            if ((then.lines() >> line & 1) == 1) return n;
        }
        return NONE;
    }

    // 4 so that it is read

    private boolean readWith(int lines, int... shifts) {
        State state = now().copy();
        for (int k = 0; k < shifts.length; k += 2) {
            state.peels.get(shifts[k]).place = shifts[k + 1];
            if (state.peels.get(shifts[k]).lifted) return false;
        }
        return (state.lines() & lines) == lines;
    }

    int found(int lines, int r) {
        if (!in(lines, 0, 255) || !in(r, 0, 5)) return BAD;
        if (noPeels()) return STATE;
        if (readWith(lines)) {
            rows[r] = new int[0];
            return 0;
        }
        int size = now().peels.size();
        for (int k = 0; k < size * 16; k++) {
            if (readWith(lines, k / 16, k % 16)) {
                rows[r] = new int[] {k / 16, k % 16};
                return 1;
            }
        }
        for (int k = 0; k < size * size * 256; k++) {
            int i = k / 256 / size;
            int j = k / 256 % size;
            if (i < j && readWith(lines, i, k / 16 % 16, j, k % 16)) {
                rows[r] = new int[] {i, k / 16 % 16, j, k % 16};
                return 2;
            }
        }
        return NONE;
    }

    int best(int i) {
        if (!isPeel(i)) return BAD;
        int best = -1;
        int where = -1;
        for (int place = 15; place >= 0; place--) {
            State state = now().copy();
            state.peels.get(i).place = place;
            state.peels.get(i).lifted = false;
            int many = Integer.bitCount(state.lines());
            if (many >= best) {
                best = many;
                where = place;
            }
        }
        return tell(best, where);
    }

    // 5 what lay in a gap

    private List<Integer> gaps(int lines) {
        List<Integer> sets = new ArrayList<>();
        int licked = bits(now().licked);
        for (int set = 0; set < 65536; set++) {
            if ((set & ~licked) == 0) {
                Set<Integer> covered = now().covered();
                for (int place = 0; place < 16; place++) {
                    if ((set >> place & 1) == 1) {
                        covered.add(place);
                    }
                }
                if (now().linesOf(covered) == lines) {
                    sets.add(set);
                }
            }
        }
        return sets;
    }

    private int tellSets(List<Integer> sets) {
        upper = sets.size();
        lower = 1;
        return tell(sets.isEmpty() ? NONE : sets.get(0), 1);
    }

    private int tellSure(List<Integer> sets, int among) {
        if (sets.isEmpty()) return find(4);
        int all = among;
        int none = among;
        for (int set : sets) {
            all &= set;
            none &= ~set;
        }
        return tell(none, all);
    }

    int gap(int lines) {
        if (!in(lines, 0, 255)) return BAD;
        return noPeels() ? STATE : tellSets(gaps(lines));
    }

    int sure(int lines) {
        if (!in(lines, 0, 255)) return BAD;
        return noPeels() ? STATE : tellSure(gaps(lines), bits(now().licked));
    }

    // 6 by what was read

    private int flaw(int r) {
        if (rows[r] == null) return 1;
        if (!in(rows[r].length, 1, 10)) return 5;
        for (int v : rows[r]) {
            if (!in(v, 0, 255)) return 3;
        }
        return 0;
    }

    private boolean fits(State state, int r) {
        for (int k = 0; k < rows[r].length; k++) {
            if (state.fallen(k + 1).lines() != rows[r][k]) return false;
        }
        return true;
    }

    private State placed(int i, int place) {
        State state = now().copy();
        state.peels.get(i).place = place;
        return state;
    }

    private Set<Integer> fitting(int i, int r) {
        Set<Integer> places = new TreeSet<>();
        for (int place = 0; place < 16; place++) {
            if (fits(placed(i, place), r)) {
                places.add(place);
            }
        }
        return places;
    }

    int places(int i, int r) {
        if (!isPeel(i) || !in(r, 0, 5)) return BAD;
        return flaw(r) != 0 ? find(flaw(r)) : bits(fitting(i, r));
    }

    int kinds(int i, int r) {
        if (!isPeel(i) || !in(r, 0, 5)) return BAD;
        if (flaw(r) != 0) return find(flaw(r));
        Set<Integer> kinds = new TreeSet<>();
        for (int kind = 0; kind < 6; kind++) {
            State state = now().copy();
            state.peels.get(i).letter = LETTERS.charAt(kind);
            if (fits(state, r)) {
                kinds.add(kind);
            }
        }
        return bits(kinds);
    }

    int next(int i, int r) {
        if (!isPeel(i) || !in(r, 0, 5)) return BAD;
        if (flaw(r) != 0) return find(flaw(r));
        Set<Integer> places = fitting(i, r);
        if (places.isEmpty()) return NONE;
        int line = -1;
        int least = 99;
        for (int l = 7; l >= 0; l--) {
            int[] parts = new int[2];
            for (int place : places) {
                parts[placed(i, place).fallen(rows[r].length + 1).lines() >> l & 1]++;
            }
            if (Math.max(parts[0], parts[1]) <= least) {
                least = Math.max(parts[0], parts[1]);
                line = l;
            }
        }
        return tell(least, line);
    }

    // 7 whose lengths

    private List<Integer> lengths(int v) {
        List<Integer> sets = new ArrayList<>();
        for (int set = 0; set < 1 << now().peels.size(); set++) {
            int sum = 0;
            for (int i = 0; i < now().peels.size(); i++) {
                sum += (set >> i & 1) == 1 ? now().peels.get(i).length : 0;
            }
            if (sum == v) {
                sets.add(set);
            }
        }
        return sets;
    }

    int sets(int v) {
        if (!in(v, 0, 24)) return BAD;
        return noPeels() ? STATE : tellSets(lengths(v));
    }

    int surely(int v) {
        if (!in(v, 0, 24)) return BAD;
        return noPeels() ? STATE : tellSure(lengths(v), (1 << now().peels.size()) - 1);
    }

    // 8 by turns

    private int play(State state, int left) {
        if (left == 0) return Integer.bitCount(state.fallen(1).lines());
        boolean don = left % 2 == 1;
        int best = play(state, left - 1);
        for (Peel peel : state.peels) {
            if (peel.lifted == don) {
                peel.lifted = !don;
                int value = play(state, left - 1);
                best = don ? Math.max(best, value) : Math.min(best, value);
                peel.lifted = don;
            }
        }
        return best;
    }

    int duel(int n) {
        if (!in(n, 0, 2)) return BAD;
        return noPeels() ? STATE : tell(play(now().copy(), 2 * n), 1);
    }

    // 9 chances, lots

    /** Peel by peel: burnt by p of 12, else not. */
    private BigInteger burn(State state, int i, int p, int lines) {
        if (i == state.peels.size()) return BigInteger.valueOf(Integer.bitCount(state.lines() & lines));
        Peel peel = state.peels.get(i);
        if (peel.lifted) return burn(state, i + 1, p, lines).multiply(BigInteger.valueOf(12));
        BigInteger left = burn(state, i + 1, p, lines).multiply(BigInteger.valueOf(12 - p));
        peel.lifted = true;
        BigInteger burnt = burn(state, i + 1, p, lines).multiply(BigInteger.valueOf(p));
        peel.lifted = false;
        return left.add(burnt);
    }

    private int tellBurnt(int p, int lines) {
        BigInteger up = burn(now().copy(), 0, p, lines);
        BigInteger low = BigInteger.valueOf(12).pow(now().peels.size());
        BigInteger common = up.gcd(low);
        upper = up.divide(common).longValueExact();
        lower = low.divide(common).longValueExact();
        return 1;
    }

    int odds(int line, int p) {
        if (!in(line, 0, 7) || !in(p, 0, 12)) return BAD;
        return noPeels() ? STATE : tellBurnt(p, 1 << line);
    }

    int mid(int p) {
        if (!in(p, 0, 12)) return BAD;
        return noPeels() ? STATE : tellBurnt(p, 255);
    }

    int lots(int n, int seed) {
        if (!in(n, 1, 20) || !in(seed, 1, 2147483646)) return BAD;
        if (noPeels()) return STATE;
        if (isFull(n)) return FULL;
        BigInteger lot = BigInteger.valueOf(seed);
        for (int k = 0; k < n; k++) {
            lot = lot.multiply(BigInteger.valueOf(48271)).mod(BigInteger.valueOf(2147483647));
            int it = lot.intValueExact();
            int what = it / 8 % 8;
            int place = it / 64 % 16;
            State state = what < 4 ? now().fallen(1) : now().copy();
            Peel peel = state.peels.get(it % state.peels.size());
            if (what == 4) {
                peel.place = place;
            } else if (what == 5) {
                peel.down = !peel.down;
            } else if (what == 6) {
                peel.lifted = !peel.lifted;
            } else if (what == 7 && !state.licked.remove(place) && state.licked.size() < 8) {
                state.licked.add(place);
            }
            story.add(state);
        }
        return now().tally;
    }

    // 10 what is told

    int asked() {
        return asked;
    }

    long upper() {
        return upper;
    }

    long lower() {
        return lower;
    }

    int count(int what) {
        if (!in(what, 0, 13)) return BAD;
        int lifted = 0;
        int thin = 0;
        int lumps = 0;
        for (int i = 0; i < now().peels.size(); i++) {
            Peel peel = now().peels.get(i);
            lifted |= peel.lifted ? 1 << i : 0;
            thin += "th".indexOf(peel.letter) < 0 ? 0 : 1;
            lumps += "li".indexOf(peel.letter) < 0 ? 0 : 1;
        }
        int[] counts = {now().peels.size(), now().need, now().morning, story.size() - 1, now().tally, lifted,
            bits(now().licked), now().lines(), now().covered().size(), thin, lumps,
            (int) Arrays.stream(rows).filter(row -> row != null).count(),
            (int) Arrays.stream(texts).filter(text -> text != null).count(),
            (int) kept.stream().filter(one -> one != null).count()};
        return counts[what];
    }

    int finding() {
        return finding;
    }

    int findings(int f) {
        return in(f, 1, 5) ? findings[f] : BAD;
    }

    long digest() {
        List<Integer> all = new ArrayList<>();
        for (int what = 0; what < 14; what++) {
            all.add(count(what));
        }
        for (int k = 0; k < now().peels.size() * 7; k++) {
            all.add(trait(k / 7, k % 7));
        }
        for (List<State> one : kept) {
            all.add(one == null ? -1 : one.size() - 1);
        }
        for (int[] row : rows) {
            all.add(row == null ? -1 : row.length);
            for (int k = 0; row != null && k < row.length; k++) {
                all.add(row[k]);
            }
        }
        for (byte[] text : texts) {
            all.add(text == null ? -1 : text.length);
            for (int k = 0; text != null && k < text.length; k++) {
                all.add((int) text[k]);
            }
        }
        long h = 17;
        for (int v : all) {
            h = 31 * h + v;
        }
        return h;
    }
}
