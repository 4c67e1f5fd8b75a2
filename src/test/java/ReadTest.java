/** Promises 23 to 28: covered, weighs, reads, first, found, best. */
final class ReadTest {
    private static final int NONE = PeelReadings.NONE, STATE = PeelReadings.STATE;

    public static void main(String[] args) {
        withoutPeels();
        covered();
        weighs();
        readsAndFirst();
        foundNoneAndOne();
        foundTwo();
        foundRefused();
        best();
        Check.end();
    }

    private static void withoutPeels() {
        PeelReadings x = new PeelReadings();
        Check.due("covered() without PEELS", x.covered(), STATE);
        Check.due("weighs(0) without PEELS", x.weighs(0), STATE);
        Check.due("reads(0) without PEELS", x.reads(0), STATE);
        Check.due("first(0) without PEELS", x.first(0), STATE);
        Check.due("found(0, 0) without PEELS", x.found(0, 0), STATE);
        Check.bad("best(0) without PEELS", x.best(0));
        Check.bad("weighs(8) without PEELS", x.weighs(8));
        Check.bad("reads(41) without PEELS", x.reads(41));
        Check.bad("first(8) without PEELS", x.first(8));
        Check.bad("found(256, 0) without PEELS", x.found(256, 0));
    }

    private static void covered() {
        PeelReadings x = Check.slice("n2 p0030 l0910 i1510");
        Check.both("covered()", x, x.covered(), Check.set(0, 1, 2, 9, 10, 13, 14, 15), Check.set(0, 2, 3, 5, 6));
        x.lick(1);
        Check.both("covered(), LICKED", x, x.covered(), Check.set(0, 2, 9, 10, 13, 14, 15), Check.set(0, 2, 3, 5, 6));
        x.lift(1);
        Check.both("covered(), LIFTED", x, x.covered(), Check.set(0, 2, 15), Check.set(0));
        PeelReadings y = Check.slice("n4 p0040 p0031");
        Check.both("covered() by 4", y, y.covered(), Check.set(0, 1, 2, 3, 4, 8), Check.set(0));
        PeelReadings z = Check.slice("n1 i0510");
        Check.both("covered() by 1", z, z.covered(), Check.set(5), Check.set(1, 5));
    }

    private static void weighs() {
        PeelReadings x = Check.slice("n2 p0030 l0910 i1510 c0331 t0041 h0540");
        // row 0: p, c, t; row 1: c, h; row 2: l, c, t; row 3: l, i, h
        int[] want = {4, 3, 6, 7, 2, 5, 4, 6};
        for (int line = 0; line < 8; line++) {
            Check.due("weighs(" + line + ")", x.weighs(line), want[line]);
        }
        x.lick(15);
        x.lick(9);
        Check.due("weighs(3), LICKED", x.weighs(3), 7);
        x.lift(2);
        Check.due("weighs(3), LIFTED", x.weighs(3), 4);
        Check.bad("weighs(8)", x.weighs(8));
        Check.bad("weighs(-1)", x.weighs(-1));
    }

    private static void readsAndFirst() {
        PeelReadings x = Check.slice("n2 p0120");
        // as in DeedsTest: places 7 across, 6 across, 2 down
        Check.both("reads(0)", x, x.reads(0), Check.set(0), 0);
        Check.both("reads(1)", x, x.reads(1), 0, 0);
        Check.both("reads(2)", x, x.reads(2), Check.set(1), 1);
        Check.both("reads(3)", x, x.reads(3), Check.set(6), 2);
        Check.due("first(0): now is none", x.first(0) > 3 ? 1 : 0, 1);
        Check.due("first(1)", x.first(1), 2);
        Check.due("first(6)", x.first(6), 3);
        Check.due("reads, first are aside: deeds", x.count(3), 0);
        Check.due("reads, first are aside: morning", x.count(2), 0);
        x.morning();
        Check.both("reads(1) behind one", x, x.reads(1), Check.set(1), 1);
        Check.due("first(1) behind one", x.first(1), 1);
        againstMornings("n2 p0120 c0711 h0331");
        againstMornings("n3 l0510 p0341 t0930 c1520");
        PeelReadings y = Check.slice("n2 i0510");
        Check.due("first(): in none", y.first(1), NONE);
        Check.bad("reads(-1)", x.reads(-1));
        Check.bad("reads(41)", x.reads(41));
        Check.bad("first(8)", x.first(8));
        Check.bad("first(-1)", x.first(-1));
    }

    /** Forty true mornings against what was told ahead. */
    private static void againstMornings(String signs) {
        PeelReadings ahead = Check.slice(signs);
        PeelReadings truly = Check.slice(signs);
        int[] firsts = new int[8];
        for (int n = 1; n <= 40; n++) {
            int lines = truly.morning();
            Check.both("reads(" + n + ")", ahead, ahead.reads(n), lines, truly.count(4));
            for (int line = 0; line < 8; line++) {
                if (firsts[line] == 0 && (lines >> line & 1) == 1) {
                    firsts[line] = n;
                }
            }
        }
        for (int line = 0; line < 8; line++) {
            Check.due("first(" + line + ")", ahead.first(line), firsts[line] == 0 ? NONE : firsts[line]);
        }
        Check.due("reads(40) behind forty", truly.reads(40) >= 0 ? 1 : 0, 1);
    }

    private static void foundNoneAndOne() {
        PeelReadings x = Check.slice("n2 p0120 i0510");
        Check.due("found(none)", x.found(0, 3), 0);
        Check.rowIs("found(none)", x, 3);
        Check.due("found(0)", x.found(Check.set(0), 3), 0);
        Check.due("found(1)", x.found(Check.set(1), 3), 1);
        // the PEEL to place 4 covers 4, 5: line 1
        Check.rowIs("found(1)", x, 3, 0, 4);
        Check.due("found(5): lower number first", x.found(Check.set(5), 3), 0);
        Check.due("found is aside", x.count(3), 0);
        x.lick(4);
        Check.due("found(1), LICKED", x.found(Check.set(1), 3), 1);
        Check.rowIs("found(1), LICKED", x, 3, 0, 5);
        x.lift(0);
        Check.due("found(1), LIFTED", x.found(Check.set(1), 3), NONE);
        Check.rowIs("NONE leaves the ROW", x, 3, 0, 5);
    }

    private static void foundTwo() {
        PeelReadings x = Check.slice("n2 i0010 i0510 i1010 i1510");
        // lines 0 and 1: two of the four to places of rows 0, 1 besides; the first pair is PIPS 0, 1
        Check.due("found(0, 1)", x.found(Check.set(0, 1), 2), 2);
        Check.rowIs("found(0, 1)", x, 2, 2, 1, 3, 4);
        Check.due("found(0)", x.found(Check.set(0), 2), 1);
        Check.rowIs("found(0)", x, 2, 1, 1);
        Check.due("found(0, 4)", x.found(Check.set(0, 4), 2), 2);
        Check.rowIs("found(0, 4)", x, 2, 1, 1, 2, 4);
        Check.due("found(0, 1, 2)", x.found(Check.set(0, 1, 2), 2), NONE);
        x.lift(2);
        Check.due("found(0, 4), LIFTED", x.found(Check.set(0, 4), 2), 2);
        Check.rowIs("found(0, 4), LIFTED", x, 2, 1, 1, 3, 4);
    }

    private static void foundRefused() {
        PeelReadings x = Check.slice("n2 p0120");
        Check.bad("found(256, 0)", x.found(256, 0));
        Check.bad("found(-1, 0)", x.found(-1, 0));
        Check.bad("found(0, 6)", x.found(0, 6));
        Check.bad("found(0, -1)", x.found(0, -1));
        Check.due("found: no ROW by what is refused", x.count(11), 0);
    }

    private static void best() {
        PeelReadings x = Check.slice("n2 i0010 i0510 p1220");
        // 5, 12, 13 make lines 3, 5 READ; 4 besides lines 1, 4
        Check.both("best(0)", x, x.best(0), 4, 4);
        // 0, 12, 13 make lines 3, 4 READ; 1 besides lines 0, 5
        Check.both("best(1)", x, x.best(1), 1, 4);
        x.lift(0);
        Check.both("best(0), LIFTED", x, x.best(0), 4, 4);
        x.lick(4);
        // 0 makes line 4 READ, which is as good as line 1 by 6, and ahead
        Check.both("best(0), LICKED", x, x.best(0), 0, 3);
        Check.due("best is aside", x.count(3), 2);
        Check.bad("best(3)", x.best(3));
        Check.bad("best(-1)", x.best(-1));
        PeelReadings y = Check.slice("n4 i0010");
        Check.both("best(): none can be READ", y, y.best(0), 0, 0);
    }
}
