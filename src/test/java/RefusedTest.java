/**
 * The Terms: what is refused, in which order, and that it changes nothing but finding(), findings(). Each call of the
 * face, at both ends of each range that is told and beyond them.
 */
final class RefusedTest {
    private static final int NOTHING = Check.NOTHING, BEYOND = Check.BEYOND, UNLIKE = Check.UNLIKE;
    private static final int NOUGHT = Check.NOUGHT, SIZE = Check.SIZE;
    private static final int LEAST = Integer.MIN_VALUE, MOST = Integer.MAX_VALUE;
    private static final int LAST_SEED = 2147483646;

    private static final Twins BARE = new Twins("no PEELS", RefusedTest::bare);
    private static final Twins USUAL = new Twins("usual", RefusedTest::usual);
    private static final Twins FULL = new Twins("40 DEEDS, 8 LICKED", RefusedTest::full);

    public static void main(String[] args) {
        row();
        layAndAt();
        tearAndMean();
        copy();
        text();
        put();
        faultAndSlice();
        peelAndMark();
        deeds();
        lickOfANinth();
        fullDeeds();
        roomForLots();
        undo();
        keepAndOn();
        whatIsRead();
        gapAndSure();
        byWhatWasRead();
        setsAndSurely();
        duelAndChances();
        told();
        withoutPeelsBad();
        withoutPeelsState();
        withoutPeelsBadAhead();
        Check.end();
    }

    // ---- the states

    /** ROWS 0 and 5 as places() wants them, 1 empty, 2 missing, 3 too long, 4 with a number that is none. */
    private static void rowsAndTexts(PeelReadings x) {
        Check.row(x, 0, 0, 255, 7);
        x.row(1, 0);
        x.row(3, 11);
        Check.row(x, 4, 3, 256);
        x.row(5, 10);
        Check.write(x, 0, "n2 i0541 t0140 l1041 c0740 h1241 i0640");
        Check.write(x, 1, "n1x");
        Check.write(x, 3, " n4 p0010 ");
    }

    /** So that it would be seen if it were told anew: asked() is 255, finding() is BEYOND. */
    private static void tellSome(PeelReadings x) {
        x.mean(1);
        x.at(1, 0);
        x.at(0, 1);
    }

    private static PeelReadings bare() {
        PeelReadings x = new PeelReadings();
        rowsAndTexts(x);
        tellSome(x);
        return x;
    }

    private static PeelReadings usual() {
        PeelReadings x = new PeelReadings();
        rowsAndTexts(x);
        x.slice(0);
        x.morning();
        x.keep(0);
        x.shift(1, 3);
        x.lick(5);
        x.lift(3);
        x.keep(2);
        x.turn(4);
        x.odds(1, 5);
        tellSome(x);
        return x;
    }

    /** PLACES 0 to 7 are LICKED, PEEL 0 lies at 5. */
    private static PeelReadings full() {
        PeelReadings x = new PeelReadings();
        rowsAndTexts(x);
        x.slice(0);
        x.keep(1);
        for (int place = 0; place < 8; place++) {
            x.lick(place);
        }
        for (int k = 8; k < 40; k++) {
            x.turn(k % 6);
        }
        x.odds(1, 5);
        tellSome(x);
        return x;
    }

    private static PeelReadings withDeeds(int deeds) {
        PeelReadings x = Check.slice("n2 p0120 i0010");
        for (int k = 0; k < deeds; k++) {
            x.turn(k % 2);
        }
        return x;
    }

    // ---- 1 rows, texts, slices

    private static void row() {
        USUAL.range(0, 0, 5, "row", 0, 3);
        USUAL.fits("row", 0, 0);
        USUAL.fits("row", 0, 40);
        USUAL.bad("row", 0, 41);
        USUAL.bad("row", 0, MOST);
        USUAL.finds(SIZE, "row", 0, -1);
        USUAL.finds(SIZE, "row", 2, LEAST);
        USUAL.bad("row", 6, -1);
        USUAL.bad("row", -1, 41);
    }

    private static void layAndAt() {
        USUAL.range(0, 0, 5, "lay", 0, 0, 9);
        USUAL.range(0, 0, 5, "at", 0, 0);
        USUAL.fits("lay", 0, 2, 9);
        USUAL.fits("at", 0, 2);
        for (int beyond : new int[] {-1, 3, LEAST, MOST}) {
            USUAL.finds(BEYOND, "lay", 0, beyond, 9);
            USUAL.finds(BEYOND, "at", 0, beyond);
            USUAL.finds(NOTHING, "lay", 2, beyond, 9);
            USUAL.finds(NOTHING, "at", 2, beyond);
            USUAL.bad("lay", 6, beyond, 9);
            USUAL.bad("at", -1, beyond);
        }
        USUAL.finds(BEYOND, "lay", 1, 0, 9);
        USUAL.finds(BEYOND, "at", 1, 0);
        USUAL.finds(NOTHING, "lay", 2, 0, 9);
        USUAL.finds(NOTHING, "at", 2, 0);
    }

    private static void tearAndMean() {
        USUAL.range(0, 0, 5, "tear", 0);
        USUAL.fits("tear", 1);
        USUAL.finds(NOTHING, "tear", 2);
        USUAL.range(0, 0, 5, "mean", 0);
        USUAL.finds(NOTHING, "mean", 2);
        USUAL.finds(NOUGHT, "mean", 1);
    }

    private static void copy() {
        USUAL.range(0, 0, 5, "copy", 0, 0, 3, 0, 1);
        USUAL.range(2, 0, 5, "copy", 3, 0, 0, 0, 1);
        USUAL.finds(SIZE, "copy", 0, 0, 5, 0, -1);
        USUAL.finds(SIZE, "copy", 0, 0, 5, 0, LEAST);
        USUAL.finds(NOTHING, "copy", 2, 0, 5, 0, 1);
        USUAL.finds(NOTHING, "copy", 5, 0, 2, 0, 1);
        USUAL.finds(NOTHING, "copy", 2, 0, 2, 0, 0);
        USUAL.fits("copy", 0, 0, 5, 7, 3);
        USUAL.finds(BEYOND, "copy", 0, 1, 5, 7, 3);
        USUAL.finds(BEYOND, "copy", 0, 0, 5, 8, 3);
        USUAL.finds(BEYOND, "copy", 0, -1, 5, 0, 1);
        USUAL.finds(BEYOND, "copy", 0, 0, 5, -1, 1);
        USUAL.finds(BEYOND, "copy", 0, MOST, 5, 0, 1);
        USUAL.finds(BEYOND, "copy", 0, 0, 5, MOST, MOST);
        USUAL.finds(BEYOND, "copy", 0, LEAST, 5, 0, MOST);
        // the earlier refusal of two
        USUAL.bad("copy", 6, 0, 5, 0, -1);
        USUAL.bad("copy", 0, 0, -1, 0, -1);
        USUAL.finds(SIZE, "copy", 2, 0, 2, 0, -1);
        USUAL.finds(NOTHING, "copy", 2, 99, 5, 99, 99);
        USUAL.finds(NOTHING, "copy", 5, 99, 2, 99, 99);
    }

    private static void text() {
        USUAL.range(0, 0, 3, "text", 0, 3);
        USUAL.fits("text", 0, 0);
        USUAL.fits("text", 0, 60);
        USUAL.bad("text", 0, 61);
        USUAL.bad("text", 0, MOST);
        USUAL.finds(SIZE, "text", 0, -1);
        USUAL.finds(SIZE, "text", 2, LEAST);
        USUAL.bad("text", 4, -1);
        USUAL.bad("text", -1, 61);
    }

    private static void put() {
        USUAL.range(0, 0, 3, "put", 0, 0, 65);
        USUAL.fits("put", 1, 2, 65);
        for (int beyond : new int[] {-1, 3, LEAST, MOST}) {
            USUAL.finds(BEYOND, "put", 1, beyond, 65);
            USUAL.finds(NOTHING, "put", 2, beyond, 65);
            USUAL.bad("put", 4, beyond, 65);
        }
        USUAL.finds(NOTHING, "put", 2, 0, 65);
    }

    private static void faultAndSlice() {
        USUAL.range(0, 0, 3, "fault", 0);
        USUAL.finds(NOTHING, "fault", 2);
        USUAL.range(0, 0, 3, "slice", 0);
        USUAL.finds(NOTHING, "slice", 2);
        USUAL.state("slice", 1);
        BARE.state("slice", 1);
        FULL.fits("slice", 0);
        FULL.state("slice", 1);
    }

    private static void peelAndMark() {
        USUAL.range(0, 0, 5, "peel", 0, 0);
        USUAL.range(1, 0, 6, "peel", 0, 0);
        USUAL.range(0, 0, 5, "mark", 0, 5);
        USUAL.fits("mark", 1, 1);
        USUAL.fits("mark", 0, 5);
        for (int bad : new int[] {0, -1, 6, LEAST, MOST}) {
            USUAL.bad("mark", 1, bad);
        }
        for (int kind = 2; kind <= 5; kind++) {
            USUAL.finds(UNLIKE, "mark", 1, kind);
        }
        USUAL.finds(UNLIKE, "mark", 0, 1);
        USUAL.bad("mark", 6, 1);
    }

    // ---- 2 deeds

    private static void deeds() {
        USUAL.range(0, 0, 5, "shift", 0, 14);
        USUAL.range(1, 0, 15, "shift", 1, 0);
        USUAL.state("shift", 1, 3);
        USUAL.bad("shift", 6, 3);
        USUAL.range(0, 0, 5, "turn", 0);
        USUAL.range(0, 0, 5, "lift", 0);
        USUAL.range(0, 0, 15, "lick", 0);
        USUAL.fits("morning");
    }

    private static void lickOfANinth() {
        Twins eight = new Twins("8 LICKED", () -> {
            PeelReadings x = full();
            x.undo(8);
            return x;
        });
        eight.fits("lick", 0);
        eight.fits("lick", 7);
        eight.state("lick", 8);
        eight.state("lick", 15);
        eight.bad("lick", 16);
        Twins seven = new Twins("7 LICKED", () -> {
            PeelReadings x = full();
            x.undo(7);
            return x;
        });
        seven.fits("lick", 15);
    }

    private static void fullDeeds() {
        FULL.full("morning");
        FULL.full("shift", 0, 6);
        FULL.state("shift", 0, 5);
        FULL.bad("shift", 0, 16);
        FULL.bad("shift", 6, 5);
        FULL.full("turn", 0);
        FULL.bad("turn", 6);
        FULL.full("lift", 5);
        FULL.bad("lift", -1);
        FULL.full("lick", 7);
        FULL.state("lick", 8);
        FULL.bad("lick", -1);
        FULL.full("lots", 1, 1);
        FULL.full("lots", 20, LAST_SEED);
        FULL.bad("lots", 21, 1);
        FULL.bad("lots", 1, 0);
        FULL.fits("keep", 0);
        FULL.fits("on", 1);
        FULL.fits("undo", 40);
        FULL.bad("undo", 41);
        Twins last = new Twins("39 DEEDS", () -> withDeeds(39));
        last.fits("morning");
        last.fits("shift", 0, 6);
        last.fits("turn", 0);
        last.fits("lift", 0);
        last.fits("lick", 0);
        last.fits("lots", 1, 1);
        last.full("lots", 2, 1);
        last.state("shift", 0, 1);
        Twins over = new Twins("40 DEEDS", () -> withDeeds(40));
        over.full("lick", 0);
        over.full("lick", 15);
        over.bad("lick", 16);
    }

    private static void roomForLots() {
        USUAL.range(0, 1, 20, "lots", 1, 1);
        USUAL.range(1, 1, LAST_SEED, "lots", 1, 1);
        for (int deeds = 20; deeds < 40; deeds++) {
            int before = deeds;
            Twins twins = new Twins(deeds + " DEEDS", () -> withDeeds(before));
            twins.fits("lots", 40 - deeds, 5);
            if (deeds > 20) {
                twins.full("lots", 41 - deeds, 5);
                twins.full("lots", 20, 5);
            }
            twins.bad("lots", 21, 5);
        }
    }

    private static void undo() {
        USUAL.range(0, 0, 5, "undo", 0);
        BARE.range(0, 0, 0, "undo", 0);
        FULL.range(0, 0, 40, "undo", 0);
    }

    private static void keepAndOn() {
        USUAL.range(0, 0, 2, "keep", 0);
        USUAL.range(0, 0, 2, "on", 0);
        USUAL.finds(NOTHING, "on", 1);
        FULL.finds(NOTHING, "on", 0);
        FULL.finds(NOTHING, "on", 2);
        FULL.bad("on", 3);
        BARE.finds(NOTHING, "on", 0);
        BARE.finds(NOTHING, "on", 2);
        BARE.bad("on", 3);
    }

    // ---- 3 to 9: what is asked aside

    private static void whatIsRead() {
        USUAL.range(0, 0, 5, "covers", 0, 0, 0);
        USUAL.range(1, 0, 15, "covers", 0, 0, 0);
        USUAL.range(2, 0, 1, "covers", 0, 0, 0);
        USUAL.fits("covered");
        USUAL.range(0, 0, 7, "weighs", 0);
        USUAL.range(0, 0, 40, "reads", 0);
        FULL.range(0, 0, 40, "reads", 0);
        USUAL.range(0, 0, 7, "first", 0);
        FULL.range(0, 0, 7, "first", 0);
        USUAL.range(0, 0, 255, "found", 0, 2);
        USUAL.range(1, 0, 5, "found", 255, 0);
        USUAL.range(0, 0, 5, "best", 0);
    }

    private static void gapAndSure() {
        USUAL.range(0, 0, 255, "gap", 0);
        for (int bad : new int[] {-1, 256, LEAST, MOST}) {
            USUAL.bad("sure", bad);
        }
        Twins none = new Twins("nothing READ", () -> Check.slice("n4 i0010"));
        none.fits("sure", 0);
        none.finds(NOUGHT, "sure", 255);
        none.bad("sure", 256);
        Twins all = new Twins("all READ", () -> Check.slice("n1 p0040 p0041"));
        all.fits("sure", 255);
        all.finds(NOUGHT, "sure", 0);
        all.bad("sure", -1);
    }

    private static void byWhatWasRead() {
        for (String call : new String[] {"places", "kinds", "next"}) {
            USUAL.range(0, 0, 5, call, 0, 0);
            USUAL.range(1, 0, 5, call, 0, 0);
            USUAL.finds(NOTHING, call, 0, 2);
            USUAL.finds(SIZE, call, 0, 1);
            USUAL.finds(SIZE, call, 0, 3);
            USUAL.finds(UNLIKE, call, 0, 4);
            for (int r = 1; r <= 4; r++) {
                USUAL.bad(call, 6, r);
                USUAL.bad(call, -1, r);
            }
            Twins both = new Twins("11 ints, one of them -1", () -> {
                PeelReadings x = usual();
                x.lay(3, 0, -1);
                return x;
            });
            both.finds(SIZE, call, 0, 3);
        }
    }

    /** All six are of LENGTH 4, so that there is a set of 24. */
    private static void setsAndSurely() {
        USUAL.range(0, 0, 24, "sets", 0);
        USUAL.range(0, 0, 24, "surely", 0);
        USUAL.fits("sets", 23);
        USUAL.finds(NOUGHT, "surely", 23);
        USUAL.finds(NOUGHT, "surely", 1);
    }

    private static void duelAndChances() {
        USUAL.range(0, 0, 2, "duel", 0);
        USUAL.range(0, 0, 7, "odds", 0, 0);
        USUAL.range(1, 0, 12, "odds", 0, 0);
        USUAL.range(0, 0, 12, "mid", 0);
    }

    // ---- 10 what is told

    private static void told() {
        USUAL.range(0, 0, 13, "count", 0);
        USUAL.range(0, 1, 5, "findings", 1);
        BARE.range(0, 0, 13, "count", 0);
        BARE.range(0, 1, 5, "findings", 1);
    }

    // ---- without PEELS

    private static void withoutPeelsBad() {
        BARE.bad("peel", 0, 0);
        BARE.bad("mark", 0, 1);
        BARE.bad("shift", 0, 0);
        BARE.bad("turn", 0);
        BARE.bad("lift", 0);
        BARE.bad("covers", 0, 0, 0);
        BARE.bad("best", 0);
        for (int r = 0; r < 6; r++) {
            BARE.bad("places", 0, r);
            BARE.bad("kinds", 0, r);
            BARE.bad("next", 0, r);
        }
    }

    private static void withoutPeelsState() {
        BARE.state("morning");
        BARE.state("lick", 0);
        BARE.state("lick", 15);
        BARE.state("keep", 0);
        BARE.state("keep", 2);
        BARE.state("covered");
        BARE.state("weighs", 0);
        BARE.state("weighs", 7);
        BARE.state("reads", 0);
        BARE.state("reads", 40);
        BARE.state("first", 0);
        BARE.state("first", 7);
        BARE.state("found", 0, 2);
        BARE.state("found", 255, 5);
        BARE.state("gap", 0);
        BARE.state("gap", 255);
        BARE.state("sure", 0);
        BARE.state("sure", 255);
        BARE.state("sets", 0);
        BARE.state("sets", 24);
        BARE.state("surely", 0);
        BARE.state("surely", 24);
        BARE.state("duel", 0);
        BARE.state("duel", 2);
        BARE.state("odds", 0, 0);
        BARE.state("odds", 7, 12);
        BARE.state("mid", 0);
        BARE.state("mid", 12);
        BARE.state("lots", 1, 1);
        BARE.state("lots", 20, LAST_SEED);
    }

    private static void withoutPeelsBadAhead() {
        for (int side : new int[] {LEAST, -1, MOST}) {
            for (String call : new String[] {"lick", "keep", "weighs", "reads", "first", "gap", "sure", "sets", "surely",
                "duel", "mid"}) {
                BARE.bad(call, side);
            }
            BARE.bad("found", side, 0);
            BARE.bad("found", 0, side);
            BARE.bad("odds", side, 0);
            BARE.bad("odds", 0, side);
            BARE.bad("lots", side, 1);
            BARE.bad("lots", 1, side);
        }
        BARE.bad("lick", 16);
        BARE.bad("keep", 3);
        BARE.bad("weighs", 8);
        BARE.bad("reads", 41);
        BARE.bad("first", 8);
        BARE.bad("found", 256, 0);
        BARE.bad("found", 0, 6);
        BARE.bad("gap", 256);
        BARE.bad("sure", 256);
        BARE.bad("sets", 25);
        BARE.bad("surely", 25);
        BARE.bad("duel", 3);
        BARE.bad("odds", 8, 0);
        BARE.bad("odds", 0, 13);
        BARE.bad("mid", 13);
        BARE.bad("lots", 0, 1);
        BARE.bad("lots", 21, 1);
        BARE.bad("lots", 1, 0);
    }
}
