/** Marmalade read on the knife: peels on a slice of four by four, and what can be told of them. */
public final class PeelReadings {
    public static final int BAD = -1, FULL = -2, FINDING = -3, STATE = -4, SPENT = -6, NONE = -9;

    private static final int NOTHING = 1, BEYOND = 2, UNLIKE = 3, NOUGHT = 4, SIZE = 5;
    private static final int PEEL = 0, THIN = 1, LUMP = 2, CURL = 3, HAIR = 4, PIP = 5;
    private static final int MORNING = 0, SHIFT = 1, TURN = 2, LIFT = 3, LICK = 4;

    private static final int ROWS = 6, ROW_SIZE = 40;
    private static final int TEXTS = 4, TEXT_SIZE = 60, BLANK = 32;
    private static final int KINDS = 6, PEELS = 6, LONGEST = 4, PLACES = 16, LINES = 8, ALL_LINES = 255;
    private static final int MOST_DEEDS = 40, MOST_LICKED = 8, MOST_SETS = 256;
    private static final int KEPT = 3, NOW = 3;
    private static final int MOST_SEEN = 10, MOST_MORNINGS = 40, MOST_TURNS = 2;
    private static final int TWELVE = 12, MOST_LOTS = 20, LOTS_FACTOR = 48271, LOTS_MODULUS = 2147483647;
    private static final int PEEL_TRAITS = 7, COUNTS = 14;

    private final Shelf rows;
    private final Shelf texts;
    /** Row NOW holds the deeds of the slice, the rows ahead of it those of kept slices. */
    private final Shelf deeds;
    /** The slice as its text told it: deeds are undone by doing the earlier ones anew from here. */
    private final Slice start;
    private final Slice slice;
    /** What is only tried out is done to this one. */
    private final Slice aside;
    private final Reader reader;
    private final Sets fitting;
    private final int[] scratch;
    private final int[] findings;
    private int finding;
    private int asked;
    private long upper;
    private long lower;

    public PeelReadings() {
        rows = new Shelf(new int[ROWS * ROW_SIZE], new int[ROWS], ROW_SIZE);
        texts = new Shelf(new int[TEXTS * TEXT_SIZE], new int[TEXTS], TEXT_SIZE);
        deeds = new Shelf(new int[(KEPT + 1) * MOST_DEEDS], new int[KEPT + 1], MOST_DEEDS);
        deeds.make(NOW, 0, 0);
        start = new Slice();
        slice = new Slice();
        aside = new Slice();
        reader = new Reader(texts, aside);
        fitting = new Sets();
        scratch = new int[PEELS * PLACES];
        findings = new int[SIZE + 1];
        lower = 1;
    }

    // ---- 1 rows, texts, slices

    public int row(int r, int n) {
        if (!isRow(r) || n > ROW_SIZE) {
            return BAD;
        }
        if (n < 0) {
            return find(SIZE);
        }
        rows.make(r, n, 0);
        return n;
    }

    public int lay(int r, int i, int v) {
        if (!isRow(r)) {
            return BAD;
        }
        if (rows.isMissing(r)) {
            return find(NOTHING);
        }
        if (!rows.has(r, i)) {
            return find(BEYOND);
        }
        int old = rows.get(r, i);
        rows.set(r, i, v);
        return tell(old);
    }

    public int at(int r, int i) {
        if (!isRow(r)) {
            return BAD;
        }
        if (rows.isMissing(r)) {
            return find(NOTHING);
        }
        return rows.has(r, i) ? tell(rows.get(r, i)) : find(BEYOND);
    }

    public int tear(int r) {
        if (!isRow(r)) {
            return BAD;
        }
        if (rows.isMissing(r)) {
            return find(NOTHING);
        }
        rows.remove(r);
        return 1;
    }

    public int copy(int r, int i, int to, int j, int n) {
        if (!isRow(r) || !isRow(to)) {
            return BAD;
        }
        if (n < 0) {
            return find(SIZE);
        }
        if (rows.isMissing(r) || rows.isMissing(to)) {
            return find(NOTHING);
        }
        if (!rows.hasRun(r, i, n) || !rows.hasRun(to, j, n)) {
            return find(BEYOND);
        }
        rows.copyRun(r, i, to, j, n);
        return 1;
    }

    public int mean(int r) {
        if (!isRow(r)) {
            return BAD;
        }
        if (rows.isMissing(r)) {
            return find(NOTHING);
        }
        int size = rows.sizeOf(r);
        if (size == 0) {
            return find(NOUGHT);
        }
        long sum = 0;
        for (int i = 0; i < size; i++) {
            sum += rows.get(r, i);
        }
        return tell((int) (sum / size));
    }

    public int text(int t, int n) {
        if (!isText(t) || n > TEXT_SIZE) {
            return BAD;
        }
        if (n < 0) {
            return find(SIZE);
        }
        texts.make(t, n, BLANK);
        return n;
    }

    public int put(int t, int i, int v) {
        if (!isText(t)) {
            return BAD;
        }
        if (texts.isMissing(t)) {
            return find(NOTHING);
        }
        if (!texts.has(t, i)) {
            return find(BEYOND);
        }
        int old = texts.get(t, i);
        texts.set(t, i, (byte) v);
        return old + 1000;
    }

    public int fault(int t) {
        if (!isText(t)) {
            return BAD;
        }
        return texts.isMissing(t) ? find(NOTHING) : reader.read(t);
    }

    public int slice(int t) {
        if (!isText(t)) {
            return BAD;
        }
        if (texts.isMissing(t)) {
            return find(NOTHING);
        }
        if (reader.read(t) != NONE) {
            return STATE;
        }
        start.take(aside);
        slice.take(start);
        for (int k = 0; k < KEPT; k++) {
            deeds.remove(k);
        }
        deeds.make(NOW, 0, 0);
        return slice.size;
    }

    public int peel(int i, int what) {
        if (!slice.has(i) || !isIn(what, PEEL_TRAITS)) {
            return BAD;
        }
        return tell(slice.trait(i, what));
    }

    public int mark(int i, int kind) {
        if (!slice.has(i) || kind == PEEL || !isIn(kind, KINDS)) {
            return BAD;
        }
        return slice.isOf(i, kind) ? slice.tells(i, kind) : find(UNLIKE);
    }

    // ---- 2 deeds

    public int morning() {
        if (slice.size == 0) {
            return STATE;
        }
        if (!hasRoom(1)) {
            return FULL;
        }
        act(MORNING, 0, 0);
        return slice.linesNow();
    }

    public int shift(int i, int place) {
        if (!slice.has(i) || !isIn(place, PLACES)) {
            return BAD;
        }
        int old = slice.placeOf(i);
        if (old == place) {
            return STATE;
        }
        if (!hasRoom(1)) {
            return FULL;
        }
        act(SHIFT, i, place);
        return old;
    }

    public int turn(int i) {
        if (!slice.has(i)) {
            return BAD;
        }
        if (!hasRoom(1)) {
            return FULL;
        }
        act(TURN, i, 0);
        return slice.downOf(i);
    }

    public int lift(int i) {
        if (!slice.has(i)) {
            return BAD;
        }
        if (!hasRoom(1)) {
            return FULL;
        }
        act(LIFT, i, 0);
        return bit(slice.lifted, i);
    }

    public int lick(int place) {
        if (!isIn(place, PLACES)) {
            return BAD;
        }
        if (slice.size == 0 || !slice.canLick(place)) {
            return STATE;
        }
        if (!hasRoom(1)) {
            return FULL;
        }
        act(LICK, 0, place);
        return bit(slice.licked, place);
    }

    public int undo(int n) {
        int undone = deeds.sizeOf(NOW) - n;
        // The number right behind the last deed is a place to undo from, too: none are undone.
        if (n < 0 || undone < 0) {
            return BAD;
        }
        deeds.cut(NOW, n);
        doAnew();
        return undone;
    }

    public int keep(int k) {
        if (!isIn(k, KEPT)) {
            return BAD;
        }
        if (slice.size == 0) {
            return STATE;
        }
        deeds.copyRow(NOW, k);
        return deeds.sizeOf(NOW);
    }

    public int on(int k) {
        if (!isIn(k, KEPT)) {
            return BAD;
        }
        if (deeds.isMissing(k)) {
            return find(NOTHING);
        }
        deeds.copyRow(k, NOW);
        doAnew();
        return deeds.sizeOf(NOW);
    }

    // ---- 3 what is read (aside)

    public int covers(int i, int place, int down) {
        if (!slice.has(i) || !isIn(place, PLACES) || !isIn(down, 2)) {
            return BAD;
        }
        return slice.coverAt(i, place, down);
    }

    public int covered() {
        if (slice.size == 0) {
            return STATE;
        }
        asked = slice.linesNow();
        return slice.coveredNow();
    }

    public int weighs(int line) {
        if (!isIn(line, LINES)) {
            return BAD;
        }
        return slice.size == 0 ? STATE : slice.weightOn(line);
    }

    public int reads(int n) {
        if (n < 0 || n > MOST_MORNINGS) {
            return BAD;
        }
        if (slice.size == 0) {
            return STATE;
        }
        aside.take(slice);
        aside.fallTimes(n);
        asked = aside.tally;
        return aside.linesNow();
    }

    public int first(int line) {
        if (!isIn(line, LINES)) {
            return BAD;
        }
        if (slice.size == 0) {
            return STATE;
        }
        aside.take(slice);
        for (int n = 1; n <= MOST_MORNINGS; n++) {
            aside.fall();
            if (bit(aside.linesNow(), line) == 1) {
                return n;
            }
        }
        return NONE;
    }

    // ---- 4 so that it is read (aside, now)

    public int found(int lines, int r) {
        if (!areLines(lines) || !isRow(r)) {
            return BAD;
        }
        if (slice.size == 0) {
            return STATE;
        }
        if (slice.areRead(lines, slice.coveredNow())) {
            rows.make(r, 0, 0);
            return 0;
        }
        layOutCovers();
        if (foundByOne(lines, r)) {
            return 1;
        }
        return foundByTwo(lines, r) ? 2 : NONE;
    }

    public int best(int i) {
        if (!slice.has(i)) {
            return BAD;
        }
        int others = slice.coverOfAllBut(i, i);
        int bestPlace = 0;
        int most = -1;
        for (int place = 0; place < PLACES; place++) {
            int covered = others | slice.coverAt(i, place, slice.downOf(i));
            int lines = Integer.bitCount(slice.linesBy(covered & ~slice.licked));
            if (lines > most) {
                most = lines;
                bestPlace = place;
            }
        }
        asked = most;
        return bestPlace;
    }

    // ---- 5 what lay in a gap (aside)

    public int gap(int lines) {
        if (!areLines(lines)) {
            return BAD;
        }
        if (slice.size == 0) {
            return STATE;
        }
        fitGapSets(lines);
        tellChance(fitting.count, 1);
        return tell(fitting.least);
    }

    public int sure(int lines) {
        if (!areLines(lines)) {
            return BAD;
        }
        if (slice.size == 0) {
            return STATE;
        }
        fitGapSets(lines);
        if (fitting.count == 0) {
            return find(NOUGHT);
        }
        asked = slice.licked & ~fitting.inSome;
        return fitting.inAll;
    }

    // ---- 6 by what was read

    public int places(int i, int r) {
        if (!slice.has(i) || !isRow(r)) {
            return BAD;
        }
        int flaw = flawOfSeen(r);
        return flaw != 0 ? find(flaw) : fittingPlaces(i, r);
    }

    public int kinds(int i, int r) {
        if (!slice.has(i) || !isRow(r)) {
            return BAD;
        }
        int flaw = flawOfSeen(r);
        return flaw != 0 ? find(flaw) : fittingKinds(i, r);
    }

    public int next(int i, int r) {
        if (!slice.has(i) || !isRow(r)) {
            return BAD;
        }
        int flaw = flawOfSeen(r);
        if (flaw != 0) {
            return find(flaw);
        }
        int those = fittingPlaces(i, r);
        return those == 0 ? NONE : lineToLookAt(i, those, rows.sizeOf(r) + 1);
    }

    // ---- 7 whose lengths

    public int sets(int v) {
        if (v < 0 || v > PEELS * LONGEST) {
            return BAD;
        }
        if (slice.size == 0) {
            return STATE;
        }
        fitLengthSets(v);
        tellChance(fitting.count, 1);
        return tell(fitting.least);
    }

    public int surely(int v) {
        if (v < 0 || v > PEELS * LONGEST) {
            return BAD;
        }
        if (slice.size == 0) {
            return STATE;
        }
        fitLengthSets(v);
        if (fitting.count == 0) {
            return find(NOUGHT);
        }
        asked = slice.allPeels() & ~fitting.inSome;
        return fitting.inAll;
    }

    // ---- 8 by turns

    public int duel(int n) {
        if (n < 0 || n > MOST_TURNS) {
            return BAD;
        }
        if (slice.size == 0) {
            return STATE;
        }
        weighLiftedSets();
        for (int k = 0; k < n && k < MOST_TURNS; k++) {
            donChooses();
            bedmakerChooses();
        }
        return tell(valueOf(slice.lifted));
    }

    // ---- 9 chances, lots

    public int odds(int line, int p) {
        if (!isIn(line, LINES) || p < 0 || p > TWELVE) {
            return BAD;
        }
        if (slice.size == 0) {
            return STATE;
        }
        tellBurnt(1 << line, p);
        return 1;
    }

    public int mid(int p) {
        if (p < 0 || p > TWELVE) {
            return BAD;
        }
        if (slice.size == 0) {
            return STATE;
        }
        tellBurnt(ALL_LINES, p);
        return 1;
    }

    public int lots(int n, int seed) {
        if (n < 1 || n > MOST_LOTS || seed < 1 || seed >= LOTS_MODULUS) {
            return BAD;
        }
        if (slice.size == 0) {
            return STATE;
        }
        if (!hasRoom(n)) {
            return FULL;
        }
        long lot = seed;
        for (int k = 0; k < n && k < MOST_LOTS; k++) {
            lot = lot * LOTS_FACTOR % LOTS_MODULUS;
            act(deedByLot((int) lot), (int) (lot % slice.size), (int) (lot / 64 % PLACES));
        }
        return slice.tally;
    }

    // ---- 10 what is told

    public int asked() {
        return asked;
    }

    public long upper() {
        return upper;
    }

    public long lower() {
        return lower;
    }

    public int count(int what) {
        switch (what) {
            case 0: return slice.size;
            case 1: return slice.need;
            case 2: return slice.morning;
            case 3: return deeds.sizeOf(NOW);
            case 4: return slice.tally;
            case 5: return slice.lifted;
            case 6: return slice.licked;
            case 7: return slice.linesNow();
            case 8: return Integer.bitCount(slice.coveredNow());
            case 9: return slice.amountOf(THIN);
            case 10: return slice.amountOf(LUMP);
            case 11: return rows.amount();
            case 12: return texts.amount();
            case 13: return deeds.amount() - 1;
            default: return BAD;
        }
    }

    public int finding() {
        return finding;
    }

    public int findings(int f) {
        return f < NOTHING || f > SIZE ? BAD : findings[f];
    }

    public long digest() {
        long h = 17;
        for (int what = 0; what < COUNTS; what++) {
            h = 31 * h + count(what);
        }
        for (int i = 0; i < slice.size; i++) {
            for (int what = 0; what < PEEL_TRAITS; what++) {
                h = 31 * h + slice.trait(i, what);
            }
        }
        for (int k = 0; k < KEPT; k++) {
            h = 31 * h + deeds.sizeOf(k);
        }
        return texts.addTo(rows.addTo(h));
    }

    // ---- numbers that are as told

    private static boolean isIn(int v, int end) {
        return v >= 0 && v < end;
    }

    private static boolean isRow(int r) {
        return isIn(r, ROWS);
    }

    private static boolean isText(int t) {
        return isIn(t, TEXTS);
    }

    private static boolean areLines(int lines) {
        return lines >= 0 && lines <= ALL_LINES;
    }

    private static int bit(int set, int i) {
        return set >> i & 1;
    }

    // ---- telling

    private int find(int f) {
        finding = f;
        if (f >= NOTHING && f <= SIZE) {
            findings[f]++;
        }
        return FINDING;
    }

    private int tell(int v) {
        asked = v;
        return 1;
    }

    private void tellChance(long up, long low) {
        long a = up;
        long b = low;
        for (int k = 0; k < 100 && b != 0; k++) {
            long rest = a % b;
            a = b;
            b = rest;
        }
        if (a > 0) {
            upper = up / a;
            lower = low / a;
        }
    }

    // ---- doing

    private boolean hasRoom(int n) {
        return deeds.sizeOf(NOW) + n <= MOST_DEEDS;
    }

    private void act(int what, int i, int place) {
        deeds.append(NOW, (what * PEELS + i) * PLACES + place);
        slice.perform(what, i, place);
    }

    private void doAnew() {
        slice.take(start);
        int size = deeds.sizeOf(NOW);
        for (int k = 0; k < size; k++) {
            int deed = deeds.get(NOW, k);
            slice.perform(deed / PLACES / PEELS, deed / PLACES % PEELS, deed % PLACES);
        }
    }

    private static int deedByLot(int lot) {
        switch (lot / 8 % 8) {
            case 4: return SHIFT;
            case 5: return TURN;
            case 6: return LIFT;
            case 7: return LICK;
            default: return MORNING;
        }
    }

    // ---- the fewest peels to shift

    /** Two peels are tried at all pairs of places, so their covers are worked out once, ahead. */
    private void layOutCovers() {
        for (int i = 0; i < slice.size && i < PEELS; i++) {
            for (int place = 0; place < PLACES; place++) {
                scratch[i * PLACES + place] = slice.coverAt(i, place, slice.downOf(i));
            }
        }
    }

    private boolean foundByOne(int lines, int r) {
        for (int i = 0; i < slice.size && i < PEELS; i++) {
            if (slice.isLifted(i)) {
                continue;
            }
            int others = slice.coverOfAllBut(i, i);
            for (int place = 0; place < PLACES; place++) {
                int covered = others | scratch[i * PLACES + place];
                if (slice.areRead(lines, covered & ~slice.licked)) {
                    rows.make(r, 0, 0);
                    rows.append(r, i);
                    rows.append(r, place);
                    return true;
                }
            }
        }
        return false;
    }

    private boolean foundByTwo(int lines, int r) {
        for (int i = 0; i < slice.size; i++) {
            for (int j = i + 1; j < slice.size; j++) {
                if (!slice.isLifted(i) && !slice.isLifted(j) && foundByPair(lines, i, j, r)) {
                    return true;
                }
            }
        }
        return false;
    }

    private boolean foundByPair(int lines, int i, int j, int r) {
        if (!isIn(i, PEELS) || !isIn(j, PEELS)) {
            return false;
        }
        int others = slice.coverOfAllBut(i, j);
        for (int p = 0; p < PLACES; p++) {
            int withFirst = others | scratch[i * PLACES + p];
            for (int q = 0; q < PLACES; q++) {
                int covered = withFirst | scratch[j * PLACES + q];
                if (slice.areRead(lines, covered & ~slice.licked)) {
                    rows.make(r, 0, 0);
                    rows.append(r, i);
                    rows.append(r, p);
                    rows.append(r, j);
                    rows.append(r, q);
                    return true;
                }
            }
        }
        return false;
    }

    // ---- sets that fit

    private void fitGapSets(int lines) {
        fitting.clear();
        int covered = slice.coveredNow();
        int set = 0;
        for (int k = 0; k < MOST_SETS; k++) {
            if (slice.linesBy(covered | set) == lines) {
                fitting.add(set);
            }
            // the next greater number that is a set of licked places; 0 behind the last one
            set = set - slice.licked & slice.licked;
            if (set == 0) {
                break;
            }
        }
    }

    private void fitLengthSets(int v) {
        fitting.clear();
        int all = slice.allPeels();
        for (int set = 0; set <= all; set++) {
            if (slice.lengthOfAll(set) == v) {
                fitting.add(set);
            }
        }
    }

    // ---- by what was read

    /** Which finding there is against a row of lines that were read; 0 for none. */
    private int flawOfSeen(int r) {
        int size = rows.sizeOf(r);
        if (rows.isMissing(r)) {
            return NOTHING;
        }
        if (size < 1 || size > MOST_SEEN) {
            return SIZE;
        }
        for (int k = 0; k < size; k++) {
            if (!areLines(rows.get(r, k))) {
                return UNLIKE;
            }
        }
        return 0;
    }

    private boolean asideFits(int r) {
        int size = rows.sizeOf(r);
        for (int k = 0; k < size; k++) {
            aside.fall();
            if (aside.linesNow() != rows.get(r, k)) {
                return false;
            }
        }
        return true;
    }

    private int fittingPlaces(int i, int r) {
        int those = 0;
        for (int place = 0; place < PLACES; place++) {
            aside.take(slice);
            aside.settle(i, place, slice.downOf(i));
            if (asideFits(r)) {
                those |= 1 << place;
            }
        }
        return those;
    }

    private int fittingKinds(int i, int r) {
        int those = 0;
        for (int kind = 0; kind < KINDS; kind++) {
            aside.take(slice);
            aside.setKind(i, kind);
            if (asideFits(r)) {
                those |= 1 << kind;
            }
        }
        return those;
    }

    private int lineToLookAt(int i, int those, int mornings) {
        for (int place = 0; place < PLACES; place++) {
            aside.take(slice);
            aside.settle(i, place, slice.downOf(i));
            aside.fallTimes(mornings);
            scratch[place] = aside.linesNow();
        }
        int all = Integer.bitCount(those);
        int bestLine = 0;
        int least = all + 1;
        for (int line = 0; line < LINES; line++) {
            int read = 0;
            for (int place = 0; place < PLACES; place++) {
                read += bit(those, place) * bit(scratch[place], line);
            }
            int part = Math.max(read, all - read);
            if (part < least) {
                least = part;
                bestLine = line;
            }
        }
        asked = least;
        return bestLine;
    }

    // ---- by turns: of each set of lifted peels, how many lines come to be read from there

    private void weighLiftedSets() {
        aside.take(slice);
        aside.lifted = 0;
        aside.fall();
        int all = aside.allPeels();
        for (int set = 0; set <= all && set < scratch.length; set++) {
            aside.lifted = set;
            scratch[set] = Integer.bitCount(aside.linesNow());
        }
    }

    private int valueOf(int set) {
        return isIn(set, scratch.length) ? scratch[set] : 0;
    }

    /** From the greatest set down, as the don goes to lower sets, whose values must still be the old ones. */
    private void donChooses() {
        for (int set = Math.min(slice.allPeels(), scratch.length - 1); set >= 0; set--) {
            for (int i = 0; i < slice.size; i++) {
                scratch[set] = Math.max(scratch[set], valueOf(set & ~(1 << i)));
            }
        }
    }

    /** From the least set up, as the bedmaker goes to greater sets, whose values must still be the old ones. */
    private void bedmakerChooses() {
        int all = slice.allPeels();
        for (int set = 0; set <= all && set < scratch.length; set++) {
            for (int i = 0; i < slice.size; i++) {
                scratch[set] = Math.min(scratch[set], valueOf(set | 1 << i));
            }
        }
    }

    // ---- chances

    /** The mean of how many of these lines are read, each peel being burnt by p of 12. */
    private void tellBurnt(int lines, int p) {
        aside.take(slice);
        int all = slice.allPeels();
        long up = 0;
        long low = 0;
        for (int burnt = 0; burnt <= all; burnt++) {
            if ((burnt & slice.lifted) != 0) {
                continue;
            }
            long weight = chanceOf(burnt, p);
            aside.lifted = slice.lifted | burnt;
            up += weight * Integer.bitCount(aside.linesNow() & lines);
            low += weight;
        }
        tellChance(up, low);
    }

    /** By how many of all equal chances just these peels are burnt. */
    private long chanceOf(int burnt, int p) {
        long weight = 1;
        for (int i = 0; i < slice.size; i++) {
            if (!slice.isLifted(i)) {
                weight *= bit(burnt, i) == 1 ? p : TWELVE - p;
            }
        }
        return weight;
    }

    /** Numbered rows of ints, each missing, or of a size of its own up to a width. */
    private static final class Shelf {
        private static final int MISSING = -1;

        private final int[] items;
        private final int[] sizes;
        private final int width;

        /** There is room for as many rows as there are sizes. */
        Shelf(int[] items, int[] sizes, int width) {
            this.items = items;
            this.sizes = sizes;
            this.width = width;
            for (int r = 0; r < sizes.length; r++) {
                sizes[r] = MISSING;
            }
        }

        int sizeOf(int r) {
            return r >= 0 && r < sizes.length ? sizes[r] : MISSING;
        }

        boolean isMissing(int r) {
            return sizeOf(r) == MISSING;
        }

        boolean has(int r, int i) {
            return r >= 0 && r < sizes.length && i >= 0 && i < sizes[r];
        }

        boolean hasRun(int r, int i, int n) {
            return n >= 0 && i >= 0 && i <= sizeOf(r) - n;
        }

        int get(int r, int i) {
            return has(r, i) ? items[r * width + i] : 0;
        }

        void set(int r, int i, int v) {
            if (has(r, i)) {
                items[r * width + i] = v;
            }
        }

        void make(int r, int n, int v) {
            if (r >= 0 && r < sizes.length && n >= 0 && n <= width) {
                sizes[r] = n;
                for (int i = 0; i < n; i++) {
                    items[r * width + i] = v;
                }
            }
        }

        void append(int r, int v) {
            int size = sizeOf(r);
            if (size >= 0 && size < width) {
                sizes[r] = size + 1;
                items[r * width + size] = v;
            }
        }

        void cut(int r, int n) {
            if (n >= 0 && n < sizeOf(r)) {
                sizes[r] = n;
            }
        }

        void remove(int r) {
            if (r >= 0 && r < sizes.length) {
                sizes[r] = MISSING;
            }
        }

        void copyRun(int r, int i, int to, int j, int n) {
            if (hasRun(r, i, n) && hasRun(to, j, n)) {
                System.arraycopy(items, r * width + i, items, to * width + j, n);
            }
        }

        void copyRow(int r, int to) {
            int size = sizeOf(r);
            if (size >= 0) {
                make(to, size, 0);
                copyRun(r, 0, to, 0, size);
            }
        }

        /** How many are there. */
        int amount() {
            int there = 0;
            for (int r = 0; r < sizes.length; r++) {
                if (sizes[r] != MISSING) {
                    there++;
                }
            }
            return there;
        }

        /** A digest gone on with by all rows. */
        long addTo(long digest) {
            long h = digest;
            for (int r = 0; r < sizes.length; r++) {
                h = 31 * h + sizes[r];
                for (int i = 0; i < sizes[r]; i++) {
                    h = 31 * h + get(r, i);
                }
            }
            return h;
        }
    }

    /** Sets that fit, told one by one from the least on. */
    private static final class Sets {
        private int count;
        private int least;
        private int inAll;
        private int inSome;

        void clear() {
            count = 0;
            least = NONE;
            inAll = -1;
            inSome = 0;
        }

        void add(int set) {
            if (count == 0) {
                least = set;
            }
            count++;
            inAll &= set;
            inSome |= set;
        }
    }

    /** Reads a slice in its small language. */
    private static final class Reader {
        /** No byte is this one. */
        private static final int END = 1000;

        private final Shelf texts;
        private final Slice slice;
        private int text;
        private int place;

        Reader(Shelf texts, Slice slice) {
            this.texts = texts;
            this.slice = slice;
        }

        /** The place of the fault, or NONE: then the slice is as the text tells. */
        int read(int t) {
            text = t;
            place = 0;
            slice.clear();
            skipBlanks();
            if (sign() != 'n') {
                return place;
            }
            place++;
            int need = figure(1, 4);
            if (need == NONE) {
                return place;
            }
            slice.need = need;
            skipBlanks();
            for (int k = 0; k < PEELS && sign() != END; k++) {
                int fault = readPeel();
                if (fault != NONE) {
                    return fault;
                }
                skipBlanks();
            }
            return slice.size > 0 && sign() == END ? NONE : place;
        }

        private int readPeel() {
            int kind = kindBy(sign());
            if (kind == NONE) {
                return place;
            }
            place++;
            int tens = figure(0, 9);
            int ones = tens == NONE ? NONE : figure(0, 9);
            if (ones == NONE) {
                return place;
            }
            if (tens * 10 + ones >= PLACES) {
                return place - 2;
            }
            int length = figure(1, LONGEST);
            int down = length == NONE ? NONE : figure(0, 1);
            if (down == NONE) {
                return place;
            }
            slice.add(kind, tens * 10 + ones, length, down);
            return NONE;
        }

        private int sign() {
            return texts.has(text, place) ? texts.get(text, place) : END;
        }

        private void skipBlanks() {
            for (int k = 0; k < TEXT_SIZE && sign() == BLANK; k++) {
                place++;
            }
        }

        /** Goes on only by a figure that is one such. */
        private int figure(int least, int most) {
            int v = sign() - '0';
            if (v < least || v > most) {
                return NONE;
            }
            place++;
            return v;
        }

        private static int kindBy(int letter) {
            switch (letter) {
                case 'p': return PEEL;
                case 't': return THIN;
                case 'l': return LUMP;
                case 'c': return CURL;
                case 'h': return HAIR;
                case 'i': return PIP;
                default: return NONE;
            }
        }
    }

    /** Peels on four by four places, as they lie. */
    private static final class Slice {
        private static final int ALL_PLACES = 65535;
        /** The places of each line. */
        private static final int[] LINE_PLACES = {15, 240, 3840, 61440, 4369, 8738, 17476, 34952};

        private final int[] kinds = new int[PEELS];
        private final int[] places = new int[PEELS];
        private final int[] lengths = new int[PEELS];
        private final int[] downs = new int[PEELS];
        /** What each covers as it lies: asked for far oftener than it changes. */
        private final int[] covers = new int[PEELS];
        private int size;
        private int need;
        private int lifted;
        private int licked;
        private int morning;
        private int tally;

        void clear() {
            size = 0;
            need = 0;
            lifted = 0;
            licked = 0;
            morning = 0;
            tally = 0;
        }

        void take(Slice other) {
            for (int i = 0; i < PEELS; i++) {
                kinds[i] = other.kinds[i];
                places[i] = other.places[i];
                lengths[i] = other.lengths[i];
                downs[i] = other.downs[i];
                covers[i] = other.covers[i];
            }
            size = other.size;
            need = other.need;
            lifted = other.lifted;
            licked = other.licked;
            morning = other.morning;
            tally = other.tally;
        }

        void add(int kind, int place, int length, int down) {
            if (size >= 0 && size < PEELS) {
                kinds[size] = kind;
                lengths[size] = length;
                size++;
                settle(size - 1, place, down);
            }
        }

        boolean has(int i) {
            return i >= 0 && i < size && i < PEELS;
        }

        int placeOf(int i) {
            return has(i) ? places[i] : NONE;
        }

        int downOf(int i) {
            return has(i) ? downs[i] : NONE;
        }

        boolean isLifted(int i) {
            return (lifted >> i & 1) == 1;
        }

        /** The set of all peels. */
        int allPeels() {
            return (1 << size) - 1;
        }

        int trait(int i, int what) {
            if (!has(i)) {
                return BAD;
            }
            switch (what) {
                case 0: return kinds[i];
                case 1: return places[i];
                case 2: return lengths[i];
                case 3: return downs[i];
                case 4: return bit(lifted, i);
                case 5: return covers[i];
                case 6: return weightBy(kinds[i]);
                default: return BAD;
            }
        }

        // ---- kinds

        private static int weightBy(int kind) {
            switch (kind) {
                case LUMP: return 3;
                case PIP: return 3;
                case CURL: return 2;
                default: return 1;
            }
        }

        boolean isOf(int i, int kind) {
            int own = has(i) ? kinds[i] : NONE;
            return own == kind || own == HAIR && kind == THIN || own == PIP && kind == LUMP;
        }

        int amountOf(int kind) {
            int amount = 0;
            for (int i = 0; i < size; i++) {
                if (isOf(i, kind)) {
                    amount++;
                }
            }
            return amount;
        }

        private int amountOfWeight(int weight) {
            int amount = 0;
            for (int i = 0; i < size && i < PEELS; i++) {
                if (weightBy(kinds[i]) == weight) {
                    amount++;
                }
            }
            return amount;
        }

        /** What a peel that is of a kind tells as such. */
        int tells(int i, int kind) {
            if (!has(i)) {
                return BAD;
            }
            int cover = covers[i];
            switch (kind) {
                case THIN: return Integer.bitCount(coverAs(PEEL, i) & ~cover);
                case LUMP: return amountOfWeight(weightBy(kinds[i]));
                case CURL: return Integer.bitCount(cover & ~coverAs(PEEL, i));
                case HAIR: return Integer.bitCount(cover & ~coverAs(THIN, i));
                case PIP: return Integer.bitCount(coverAs(LUMP, i)) - Integer.bitCount(cover);
                default: return BAD;
            }
        }

        // ---- what is covered

        /** The places that are so many steps (bit k: k steps) on from a place, as far as there are any. */
        private static int reach(int place, int steps, int down) {
            if (down == 1) {
                int rows = steps & 1 | (steps & 2) << 3 | (steps & 4) << 6 | (steps & 8) << 9;
                return rows << place & ALL_PLACES;
            }
            return (steps << place % 4 & 15) << place / 4 * 4;
        }

        private static int coverBy(int kind, int place, int length, int down) {
            int steps = (1 << length) - 1;
            int thinSteps = steps & 5;
            switch (kind) {
                case THIN: return reach(place, thinSteps, down);
                case LUMP: return (reach(place, 3, 0) | reach(place, 3, 0) << 4) & ALL_PLACES;
                case CURL: return reach(place, steps, down) | reach(place, 3, 1 - down);
                case HAIR: return reach(place, thinSteps, 0) | reach(place, thinSteps, 1);
                case PIP: return 1 << place;
                default: return reach(place, steps, down);
            }
        }

        private int coverAs(int kind, int i) {
            return has(i) ? coverBy(kind, places[i], lengths[i], downs[i]) : 0;
        }

        int coverAt(int i, int place, int down) {
            return has(i) ? coverBy(kinds[i], place, lengths[i], down) : 0;
        }

        /** Covers of all peels that are not lifted, but of these two (perhaps one and the same), licked or not. */
        int coverOfAllBut(int a, int b) {
            int cover = 0;
            for (int i = 0; i < size && i < PEELS; i++) {
                if (i != a && i != b && !isLifted(i)) {
                    cover |= covers[i];
                }
            }
            return cover;
        }

        int coveredNow() {
            return coverOfAllBut(NONE, NONE) & ~licked;
        }

        // ---- what is read

        int linesBy(int covered) {
            int lines = 0;
            for (int line = 0; line < LINES && size > 0; line++) {
                if (Integer.bitCount(covered & LINE_PLACES[line]) >= need) {
                    lines |= 1 << line;
                }
            }
            return lines;
        }

        int linesNow() {
            return linesBy(coverOfAllBut(NONE, NONE) & ~licked);
        }

        /** As linesBy tells, but it ends at the first line that is not read: many pairs of places are tried. */
        boolean areRead(int lines, int covered) {
            for (int line = 0; line < LINES; line++) {
                if (bit(lines, line) == 1 && Integer.bitCount(covered & LINE_PLACES[line]) < need) {
                    return false;
                }
            }
            return true;
        }

        int weightOn(int line) {
            int weight = 0;
            int on = line >= 0 && line < LINES ? LINE_PLACES[line] : 0;
            for (int i = 0; i < size && i < PEELS; i++) {
                if (!isLifted(i) && (covers[i] & on) != 0) {
                    weight += weightBy(kinds[i]);
                }
            }
            return weight;
        }

        int lengthOfAll(int set) {
            int length = 0;
            for (int i = 0; i < size && i < PEELS; i++) {
                length += bit(set, i) * lengths[i];
            }
            return length;
        }

        // ---- deeds

        void settle(int i, int place, int down) {
            if (has(i)) {
                places[i] = place;
                downs[i] = down;
                covers[i] = coverBy(kinds[i], place, lengths[i], down);
            }
        }

        void setKind(int i, int kind) {
            if (has(i)) {
                kinds[i] = kind;
                covers[i] = coverBy(kind, places[i], lengths[i], downs[i]);
            }
        }

        void fall() {
            boolean turned = morning % 3 == 2;
            for (int i = 0; i < size && i < PEELS; i++) {
                if (!isLifted(i)) {
                    int place = (5 * places[i] + lengths[i] + morning) % PLACES;
                    settle(i, place, turned ? 1 - downs[i] : downs[i]);
                }
            }
            tally += Integer.bitCount(linesNow());
            morning++;
        }

        void fallTimes(int n) {
            for (int k = 0; k < n; k++) {
                fall();
            }
        }

        boolean canLick(int place) {
            return bit(licked, place) == 1 || Integer.bitCount(licked) < MOST_LICKED;
        }

        void perform(int what, int i, int place) {
            switch (what) {
                case MORNING: fall(); break;
                case SHIFT: settle(i, place, downOf(i)); break;
                case TURN: settle(i, placeOf(i), 1 - downOf(i)); break;
                case LIFT: lifted ^= 1 << i; break;
                case LICK: licked ^= canLick(place) ? 1 << place : 0; break;
                default: break;
            }
        }
    }
}
