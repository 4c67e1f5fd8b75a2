/** The ends of promises 40 to 46, and of the 512 calls: what is told before anything was, by what, and how much of it. */
final class EdgeToldTest {
    private static final int NONE = PeelReadings.NONE;

    public static void main(String[] args) {
        toldBefore();
        askedByEachThatTells();
        askedByNoOther();
        askedByNoneRefused();
        askedThatIsNone();
        upperByEachThatTells();
        upperByNoOther();
        countsOfNothing();
        countsThatAreFull();
        countsOfKinds();
        countsOfWhatIsThere();
        findingsOfEach();
        findingsAreCounted();
        findingIsTheLatest();
        digestOfANewObject();
        digestOfFullRowsAndTexts();
        digestTellsEachApart();
        lastOf512Calls();
        Check.end();
    }

    // ---- asked

    private static void toldBefore() {
        PeelReadings x = new PeelReadings();
        Check.due("asked() before", x.asked(), 0);
        Check.due("upper() before", x.upper(), 0);
        Check.due("lower() before", x.lower(), 1);
        Check.due("finding() before", x.finding(), 0);
        for (int f = 1; f <= 5; f++) {
            Check.due("findings(" + f + ") before", x.findings(f), 0);
        }
        Check.due("covered() before", x.covered(), PeelReadings.STATE);
        Check.due("asked() behind what is refused", x.asked(), 0);
        Check.due("lower() behind what is refused", x.lower(), 1);
    }

    /** PLACE 5 is READ by 1, PLACE 9 is LICKED, ROW 0 has what comes, ROW 1 has 77. */
    private static PeelReadings some() {
        PeelReadings x = Check.slice("n1 i0510");
        x.lick(9);
        Check.row(x, 0, x.reads(1));
        Check.row(x, 1, 77);
        x.at(1, 0);
        Check.due("asked() is 77", x.asked(), 77);
        return x;
    }

    private static void tells(PeelReadings x, int want, String call, int... arguments) {
        Twins.ask(x, call, arguments);
        Check.due("told by " + call, x.asked(), want);
    }

    /** "lay(), at(), mean(), peel(), covered(), reads(), best(), gap(), sure(), next(), sets(), surely(), duel()" */
    private static void askedByEachThatTells() {
        int reads = Check.slice("n1 i0510").reads(1);
        tells(some(), reads, "lay", 0, 0, 5);
        tells(some(), reads, "at", 0, 0);
        tells(some(), reads, "mean", 0);
        tells(some(), 5, "peel", 0, 1);
        tells(some(), Check.set(1, 5), "covered");
        tells(some(), 0, "reads", 0);
        tells(some(), 4, "reads", 2);
        tells(some(), 2, "best", 0);
        tells(some(), 0, "gap", Check.set(1, 5));
        tells(some(), 1 << 9, "gap", Check.set(1, 2, 5));
        tells(some(), 1 << 9, "sure", Check.set(1, 5));
        tells(some(), 1, "next", 0, 0);
        tells(some(), 1, "sets", 1);
        tells(some(), 1, "surely", 0);
        tells(some(), 2, "duel", 1);
    }

    private static void askedByNoOther() {
        String[] calls = {"row 2 3", "tear 0", "copy 0 0 1 0 1", "text 1 3", "put 0 0 1", "fault 0", "slice 0", "mark 0 5",
            "morning", "shift 0 9", "turn 0", "lift 0", "lick 9", "undo 0", "keep 0", "covers 0 3 1", "weighs 1",
            "first 0", "found 2 2", "places 0 0", "kinds 0 0", "odds 1 3", "mid 3", "lots 3 5", "upper", "lower",
            "count 8", "finding", "findings 1", "digest"};
        for (String call : calls) {
            String[] parts = call.split(" ");
            int[] arguments = new int[parts.length - 1];
            for (int k = 1; k < parts.length; k++) {
                arguments[k - 1] = Integer.parseInt(parts[k]);
            }
            tells(some(), 77, parts[0], arguments);
        }
        PeelReadings x = some();
        x.keep(2);
        tells(x, 77, "on", 2);
    }

    private static void askedByNoneRefused() {
        tells(some(), 77, "lay", 0, 1, 5);
        tells(some(), 77, "lay", 6, 0, 5);
        tells(some(), 77, "at", 0, -1);
        tells(some(), 77, "at", 2, 0);
        tells(some(), 77, "mean", 2);
        tells(some(), 77, "peel", 0, 7);
        tells(some(), 77, "peel", 1, 0);
        tells(some(), 77, "reads", 41);
        tells(some(), 77, "best", 1);
        tells(some(), 77, "gap", 256);
        tells(some(), 77, "sure", 0);
        tells(some(), 77, "next", 0, 2);
        tells(some(), 77, "sets", 25);
        tells(some(), 77, "surely", 2);
        tells(some(), 77, "duel", 3);
    }

    /** gap() and sets() tell NONE and are not NONE; next() that is NONE tells nothing. */
    private static void askedThatIsNone() {
        tells(some(), NONE, "gap", 0);
        tells(some(), NONE, "sets", 24);
        PeelReadings x = some();
        Check.due("next() without a PLACE", x.next(0, 1), NONE);
        Check.due("next() that is NONE", x.asked(), 77);
        Check.due("first() that is NONE", Check.slice("n4 i0010").first(0), NONE);
        Check.due("found() that is NONE", Check.slice("n4 i0010").found(1, 0), NONE);
        Check.due("NONE is no FINDING", x.finding(), 0);
    }

    // ---- upper, lower

    private static void upperByEachThatTells() {
        PeelReadings x = some();
        Check.chance("odds", x, x.odds(1, 3), 3, 4);
        Check.chance("mid", x, x.mid(4), 4, 3);
        Check.chance("gap", x, x.gap(Check.set(1, 5)), 1, 1);
        Check.chance("odds of none", x, x.odds(0, 3), 0, 1);
        x.odds(1, 3);
        Check.chance("gap of none", x, x.gap(0), 0, 1);
        x.odds(1, 3);
        Check.chance("sets", x, x.sets(1), 1, 1);
        x.odds(1, 3);
        Check.chance("sets of none", x, x.sets(2), 0, 1);
    }

    private static void upperByNoOther() {
        PeelReadings x = some();
        x.odds(1, 3);
        x.mean(0);
        x.sure(Check.set(1, 5));
        x.surely(1);
        x.duel(1);
        x.reads(3);
        x.slice(0);
        x.morning();
        x.gap(-1);
        x.sets(25);
        x.odds(1, 13);
        x.odds(8, 1);
        x.mid(-1);
        Check.due("upper() is left", x.upper(), 3);
        Check.due("lower() is left", x.lower(), 4);
    }

    // ---- count

    private static void countsOfNothing() {
        PeelReadings x = new PeelReadings();
        for (int what = 0; what <= 13; what++) {
            Check.due("new: count(" + what + ")", x.count(what), 0);
        }
        PeelReadings y = Check.slice("n4 p0010");
        int[] want = {1, 4, 0, 0, 0, 0, 0, 0, 1, 0, 0, 0, 1, 0};
        for (int what = 0; what <= 13; what++) {
            Check.due("a SLICE: count(" + what + ")", y.count(what), want[what]);
        }
    }

    private static void countsThatAreFull() {
        PeelReadings x = Check.slice("n1 l0010 l0210 l0810 l1010 i0010 i1510");
        Check.due("all PLACES are COVERED", x.count(8), 16);
        Check.due("all LINES are READ", x.count(7), 255);
        for (int k = 0; k < 3; k++) {
            x.keep(k);
        }
        for (int r = 0; r < 6; r++) {
            x.row(r, 0);
        }
        for (int t = 1; t < 4; t++) {
            x.text(t, 0);
        }
        for (int i = 0; i < 6; i++) {
            x.lift(i);
        }
        for (int place = 8; place < 16; place++) {
            x.lick(place);
        }
        for (int k = 0; k < 26; k++) {
            x.morning();
        }
        int[] want = {6, 1, 26, 40, 0, 63, 255 << 8, 0, 0, 0, 6, 6, 4, 3};
        for (int what = 0; what <= 13; what++) {
            Check.due("full: count(" + what + ")", x.count(what), want[what]);
        }
        Check.bad("count(14)", x.count(14));
        Check.bad("count(-1)", x.count(-1));
    }

    /** "9 THIN ones (HAIRS, too), 10 LUMPS (PIPS, too)" */
    private static void countsOfKinds() {
        int[] thin = {0, 1, 0, 0, 1, 0};
        int[] lumps = {0, 0, 1, 0, 0, 1};
        for (int kind = 0; kind < 6; kind++) {
            PeelReadings x = Check.slice("n1 " + ("ptlchi".charAt(kind) + "0010").repeat(6));
            Check.due("THIN ones of KIND " + kind, x.count(9), 6 * thin[kind]);
            Check.due("LUMPS of KIND " + kind, x.count(10), 6 * lumps[kind]);
            x.lift(0);
            Check.due("THIN ones of KIND " + kind + ", one LIFTED", x.count(9), 6 * thin[kind]);
            Check.due("LUMPS of KIND " + kind + ", one LIFTED", x.count(10), 6 * lumps[kind]);
        }
    }

    private static void countsOfWhatIsThere() {
        PeelReadings x = Check.slice("n1 p0010");
        x.row(2, 0);
        x.row(2, 40);
        Check.due("one ROW, made twice", x.count(11), 1);
        x.found(0, 4);
        Check.due("a ROW by found()", x.count(11), 2);
        x.tear(2);
        Check.due("one is torn", x.count(11), 1);
        x.text(0, 0);
        Check.due("one TEXT, made twice", x.count(12), 1);
        x.keep(1);
        x.keep(1);
        Check.due("one kept SLICE, kept twice", x.count(13), 1);
        x.on(1);
        Check.due("it is kept still", x.count(13), 1);
    }

    // ---- finding, findings

    private static void found(PeelReadings x, int finding, String call, int... arguments) {
        int before = x.findings(finding);
        Check.finds(call, x, Twins.ask(x, call, arguments), finding);
        Check.due(call + ": findings(" + finding + ")", x.findings(finding), before + 1);
    }

    /** Each FINDING by each call that answers it. */
    private static void findingsOfEach() {
        PeelReadings x = some();
        x.row(4, 0);
        for (String call : new String[] {"tear", "mean", "fault", "slice", "on"}) {
            found(x, Check.NOTHING, call, 2);
        }
        found(x, Check.NOTHING, "lay", 2, 0, 1);
        found(x, Check.NOTHING, "at", 2, 0);
        found(x, Check.NOTHING, "copy", 2, 0, 0, 0, 0);
        found(x, Check.NOTHING, "put", 2, 0, 0);
        found(x, Check.BEYOND, "lay", 4, 0, 1);
        found(x, Check.BEYOND, "at", 4, 0);
        found(x, Check.BEYOND, "copy", 4, 0, 0, 0, 1);
        found(x, Check.BEYOND, "put", 0, 60, 0);
        found(x, Check.UNLIKE, "mark", 0, 1);
        found(x, Check.NOUGHT, "mean", 4);
        found(x, Check.NOUGHT, "sure", 0);
        found(x, Check.NOUGHT, "surely", 24);
        found(x, Check.SIZE, "row", 0, -1);
        found(x, Check.SIZE, "text", 0, -1);
        found(x, Check.SIZE, "copy", 0, 0, 1, 0, -1);
        for (String call : new String[] {"places", "kinds", "next"}) {
            found(x, Check.NOTHING, call, 0, 2);
            found(x, Check.SIZE, call, 0, 4);
            Check.row(x, 5, 256);
            found(x, Check.UNLIKE, call, 0, 5);
        }
        int[] want = {12, 4, 4, 3, 6};
        for (int f = 1; f <= 5; f++) {
            Check.due("findings(" + f + ")", x.findings(f), want[f - 1]);
        }
    }

    private static void findingsAreCounted() {
        PeelReadings x = new PeelReadings();
        for (int k = 1; k <= 300; k++) {
            x.at(0, 0);
        }
        Check.due("300 times NOTHING", x.findings(Check.NOTHING), 300);
        for (int f = 2; f <= 5; f++) {
            Check.due("none of " + f, x.findings(f), 0);
        }
        Check.bad("findings(0)", x.findings(0));
        Check.bad("findings(6)", x.findings(6));
    }

    private static void findingIsTheLatest() {
        PeelReadings x = some();
        x.row(0, -1);
        Check.due("SIZE", x.finding(), Check.SIZE);
        x.at(2, 0);
        Check.due("NOTHING then", x.finding(), Check.NOTHING);
        x.row(0, 41);
        x.shift(0, 5);
        x.peel(0, 0);
        x.slice(0);
        x.first(0);
        Check.due("NOTHING still, by BAD, STATE, what is not refused", x.finding(), Check.NOTHING);
    }

    // ---- digest

    private static long add(long h, long... values) {
        long sum = h;
        for (long v : values) {
            sum = 31 * sum + v;
        }
        return sum;
    }

    /** 14 times nothing; kept SLICES, ROWS and TEXTS that are missing: 3, 6 and 4 times -1. */
    private static void digestOfANewObject() {
        long h = add(17, 0, 0, 0, 0, 0, 0, 0, 0, 0, 0, 0, 0, 0, 0);
        h = add(h, -1, -1, -1);
        h = add(h, -1, -1, -1, -1, -1, -1);
        h = add(h, -1, -1, -1, -1);
        PeelReadings x = new PeelReadings();
        Check.due("digest of a new object", x.digest(), h);
        Check.due("digest again", x.digest(), h);
    }

    private static void digestOfFullRowsAndTexts() {
        PeelReadings x = new PeelReadings();
        for (int r = 0; r < 6; r++) {
            x.row(r, 40);
        }
        for (int t = 0; t < 4; t++) {
            x.text(t, 60);
        }
        for (int i = 0; i < 40; i++) {
            x.lay(0, i, Integer.MAX_VALUE - i);
            x.lay(5, i, Integer.MIN_VALUE + i);
        }
        for (int i = 0; i < 60; i++) {
            x.put(0, i, 128 + i);
            x.put(3, i, i);
        }
        long h = add(17, 0, 0, 0, 0, 0, 0, 0, 0, 0, 0, 0, 6, 4, 0);
        h = add(h, -1, -1, -1);
        for (int r = 0; r < 6; r++) {
            h = add(h, 40);
            for (int i = 0; i < 40; i++) {
                h = add(h, r == 0 ? Integer.MAX_VALUE - i : r == 5 ? Integer.MIN_VALUE + i : 0);
            }
        }
        for (int t = 0; t < 4; t++) {
            h = add(h, 60);
            for (int i = 0; i < 60; i++) {
                h = add(h, t == 0 ? i - 128 : t == 3 ? i : 32);
            }
        }
        Check.due("digest of full ROWS and TEXTS", x.digest(), h);
    }

    /** An empty ROW is not a missing one, a kept SLICE without DEEDS is not a missing one. */
    private static void digestTellsEachApart() {
        PeelReadings x = Check.slice("n3 i1540");
        x.text(1, 0);
        x.row(1, 0);
        x.keep(1);
        long h = add(17, 1, 3, 0, 0, 0, 0, 0, 0, 1, 0, 1, 1, 2, 1);
        h = add(h, 5, 15, 4, 0, 0, 1 << 15, 3);
        h = add(h, -1, 0, -1);
        h = add(h, -1, 0, -1, -1, -1, -1);
        h = add(h, 8, 'n', '3', ' ', 'i', '1', '5', '4', '0');
        h = add(h, 0, -1, -1);
        Check.due("digest", x.digest(), h);
    }

    /** "An object is used for at most 512 calls after it has been made" */
    private static void lastOf512Calls() {
        PeelReadings x = new PeelReadings();
        x.row(0, 1);
        for (int call = 2; call < 512; call++) {
            Check.due("call " + call, x.lay(0, 0, call), 1);
        }
        Check.due("call 512", x.mean(0), 1);
    }
}
