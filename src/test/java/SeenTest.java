/** Promises 31 to 33: places, kinds, next. */
final class SeenTest {
    private static final int NONE = PeelReadings.NONE;

    public static void main(String[] args) {
        places();
        placesAreThoseThatFit();
        kinds();
        next();
        refused();
        Check.end();
    }

    private static void places() {
        PeelReadings x = Check.slice("n1 i0510");
        // a PIP of LENGTH 1 at p falls to 5 p + 1; it reads its row and its column
        Check.row(x, 0, Check.set(0, 4));
        Check.due("places: falls to 0, from 3", x.places(0, 0), Check.set(3));
        Check.row(x, 0, Check.set(1, 7), Check.set(1, 5));
        // to 7 from 14 (71), then 5 * 7 + 1 + 1 = 37: 5
        Check.due("places of two mornings", x.places(0, 0), Check.set(14));
        Check.row(x, 0, Check.set(1, 7), Check.set(1, 6));
        Check.due("places: none", x.places(0, 0), 0);
        x.lift(0);
        Check.row(x, 0, 0);
        Check.due("places of a LIFTED one", x.places(0, 0), 65535);
        Check.row(x, 0, 1);
        Check.due("places of a LIFTED one: none", x.places(0, 0), 0);
    }

    /** Each place is tried by a true shift and true mornings. */
    private static void placesAreThoseThatFit() {
        PeelReadings x = Check.slice("n2 c0521 p1030 h0331");
        x.morning();
        x.lick(6);
        x.keep(0);
        Check.row(x, 4, x.reads(1), x.reads(2));
        for (int i = 0; i < 3; i++) {
            int want = 0;
            for (int place = 0; place < 16; place++) {
                x.on(0);
                x.shift(i, place);
                if (x.morning() == seen(x, 0) && x.morning() == seen(x, 1)) {
                    want |= 1 << place;
                }
            }
            x.on(0);
            Check.due("places(" + i + ", 4)", x.places(i, 4), want);
            Check.due("places: where it lies fits", want >> place(x, i) & 1, 1);
        }
        Check.due("places is aside", x.count(3), 2);
    }

    private static int seen(PeelReadings x, int k) {
        x.at(4, k);
        return x.asked();
    }

    private static int place(PeelReadings x, int i) {
        x.peel(i, 1);
        return x.asked();
    }

    private static void kinds() {
        PeelReadings x = Check.slice("n1 p0020");
        // it falls to 2 and covers: PEEL 2, 3; THIN 2; LUMP 2, 3, 6, 7; CURL 2, 3, 6; HAIR 2; PIP 2
        Check.row(x, 0, Check.set(0, 6, 7));
        Check.due("kinds: PEEL", x.kinds(0, 0), Check.set(0));
        Check.row(x, 0, Check.set(0, 6));
        Check.due("kinds: THIN, HAIR, PIP", x.kinds(0, 0), Check.set(1, 4, 5));
        Check.row(x, 0, Check.set(0, 1, 6, 7));
        Check.due("kinds: LUMP, CURL", x.kinds(0, 0), Check.set(2, 3));
        Check.row(x, 0, 0);
        Check.due("kinds: none", x.kinds(0, 0), 0);
        Check.told("kinds is aside", x, x.peel(0, 0), 0);
        x.lift(0);
        Check.due("kinds of a LIFTED one", x.kinds(0, 0), 63);
    }

    private static void next() {
        PeelReadings x = Check.slice("n2 p0020");
        // nothing is READ behind 1: it falls to a column 3; from places 1, 5, 9, 13 to 7, 11, 15, 3
        Check.row(x, 0, 0);
        Check.due("places ahead of next", x.places(0, 0), Check.set(1, 5, 9, 13));
        // from there to 6, 10, 14, 2 across: lines 1, 2, 3, 0, so each line parts 1 from 3
        Check.both("next", x, x.next(0, 0), 0, 3);
        Check.row(x, 0, Check.set(0));
        // to 0, 1, 2 from 6, 3, 0; then to 3, 8, 13: lines none, 2, 3
        Check.due("places ahead of next", x.places(0, 0), Check.set(0, 3, 6));
        Check.both("next", x, x.next(0, 0), 2, 2);
        Check.row(x, 0, 255);
        Check.both("next: no PLACE", x, x.next(0, 0), NONE, 0);
        Check.due("next is aside", x.count(3), 0);
        PeelReadings y = Check.slice("n1 i0510");
        Check.row(y, 0, Check.set(0, 4));
        Check.both("next of one PLACE", y, y.next(0, 0), 0, 1);
        y.lift(0);
        Check.row(y, 0, 0);
        Check.both("next of a LIFTED one", y, y.next(0, 0), 0, 16);
    }

    private static void refused() {
        PeelReadings x = Check.slice("n2 p0020");
        for (int which = 0; which < 3; which++) {
            String call = new String[] {"places", "kinds", "next"}[which];
            Check.bad(call + "(1, 0)", ask(x, which, 1, 0));
            Check.bad(call + "(-1, 0)", ask(x, which, -1, 0));
            Check.bad(call + "(0, 6)", ask(x, which, 0, 6));
            Check.bad(call + "(0, -1)", ask(x, which, 0, -1));
            x.tear(0);
            Check.finds(call + " of missing", x, ask(x, which, 0, 0), Check.NOTHING);
            x.row(0, 0);
            Check.finds(call + " of none", x, ask(x, which, 0, 0), Check.SIZE);
            x.row(0, 11);
            x.lay(0, 3, 256);
            Check.finds(call + " of eleven", x, ask(x, which, 0, 0), Check.SIZE);
            x.row(0, 10);
            Check.due(call + " of ten", ask(x, which, 0, 0) == PeelReadings.FINDING ? 1 : 0, 0);
            x.lay(0, 9, 256);
            Check.finds(call + " of 256", x, ask(x, which, 0, 0), Check.UNLIKE);
            x.lay(0, 9, -1);
            Check.finds(call + " of -1", x, ask(x, which, 0, 0), Check.UNLIKE);
            Check.bad(call + " without PEELS", ask(new PeelReadings(), which, 0, 0));
        }
    }

    private static int ask(PeelReadings x, int which, int i, int r) {
        return which == 0 ? x.places(i, r) : which == 1 ? x.kinds(i, r) : x.next(i, r);
    }
}
