/** The ends of promises 23 to 28: what is COVERED and READ, MORNINGS ahead, the fewest PEELS to shift, the best PLACE. */
final class EdgeReadTest {
    private static final int NONE = PeelReadings.NONE;

    public static void main(String[] args) {
        readByAsManyAsTold();
        coveredNoneAndAll();
        coveredButLicked();
        coveredTwice();
        readsNoneAhead();
        readsFortyAhead();
        readsBehindForty();
        readsOfLiftedOnes();
        firstInTheFirst();
        firstInTheFortieth();
        firstInNone();
        foundByNone();
        foundByTheLastOne();
        foundByTheFirstOne();
        foundByTheLastTwo();
        foundByTheFirstTwo();
        foundSecondToTheFirstPlace();
        foundLiftedOnesNot();
        foundLicked();
        foundByThreeIsNone();
        foundOnOnePeel();
        foundIsTheFirst();
        bestFirstOfEqual();
        bestAtTheLastPlace();
        bestOfNoneAndAll();
        bestOfALiftedOne();
        Check.end();
    }

    private static String pips(int... places) {
        StringBuilder signs = new StringBuilder();
        for (int place : places) {
            signs.append(" i").append(place / 10).append(place % 10).append("10");
        }
        return signs.toString();
    }

    private static int onLine(int line, int k) {
        return line < 4 ? line * 4 + k : k * 4 + line - 4;
    }

    // ---- what is covered

    /** "A LINE is READ, if as many of its PLACES, or more, are COVERED as told." */
    private static void readByAsManyAsTold() {
        for (int need = 1; need <= 4; need++) {
            for (int line = 0; line < 8; line++) {
                for (int many = 1; many <= 4; many++) {
                    int[] places = new int[many];
                    for (int k = 0; k < many; k++) {
                        places[k] = onLine(line, 3 - k);
                    }
                    PeelReadings x = Check.slice("n" + need + pips(places));
                    Check.due(many + " of line " + line, x.covered(), Check.set(places));
                    Check.due(many + " of line " + line + " by " + need, x.asked() >> line & 1, many >= need ? 1 : 0);
                    Check.due(many + " of line " + line + " by " + need + ", count(7)", x.count(7), x.asked());
                }
            }
        }
    }

    private static void coveredNoneAndAll() {
        PeelReadings x = Check.slice("n4 l0010 l0210 l0810 l1010");
        Check.both("all COVERED", x, x.covered(), 65535, 255);
        Check.due("all COVERED: how many", x.count(8), 16);
        Check.due("all COVERED: LINES", x.count(7), 255);
        x.lift(3);
        Check.both("a quarter LIFTED", x, x.covered(), 65535 & ~Check.set(10, 11, 14, 15), Check.set(0, 1, 4, 5));
        x.lift(0);
        x.lift(1);
        x.lift(2);
        Check.both("all LIFTED", x, x.covered(), 0, 0);
        Check.due("all LIFTED: how many", x.count(8), 0);
    }

    /** "and that are not LICKED" */
    private static void coveredButLicked() {
        PeelReadings x = Check.slice("n4 p0040 p1241");
        x.shift(1, 3);
        Check.both("two LINES by 4", x, x.covered(), Check.set(0, 1, 2, 3, 7, 11, 15), Check.set(0, 7));
        x.lick(3);
        Check.both("the PLACE of both is LICKED", x, x.covered(), Check.set(0, 1, 2, 7, 11, 15), 0);
        x.lick(3);
        x.lick(15);
        Check.both("the last is LICKED", x, x.covered(), Check.set(0, 1, 2, 3, 7, 11), Check.set(0));
        x.lick(14);
        Check.both("a PLACE that was not COVERED", x, x.covered(), Check.set(0, 1, 2, 3, 7, 11), Check.set(0));
    }

    private static void coveredTwice() {
        PeelReadings x = Check.slice("n2" + pips(5, 5, 5));
        Check.both("one PLACE by three", x, x.covered(), Check.set(5), 0);
        x.lift(0);
        x.lift(2);
        Check.both("one PLACE by one still", x, x.covered(), Check.set(5), 0);
    }

    // ---- mornings ahead

    private static void readsNoneAhead() {
        PeelReadings x = Check.slice("n1" + pips(0));
        Check.both("reads(0)", x, x.reads(0), Check.set(0, 4), 0);
        x.morning();
        x.morning();
        Check.both("reads(0) behind two", x, x.reads(0), x.count(7), 4);
        Check.bad("reads(-1)", x.reads(-1));
        Check.due("asked() is left", x.asked(), 4);
    }

    private static void readsFortyAhead() {
        PeelReadings x = Check.slice("n2 c0721 h0331 l1210");
        PeelReadings y = Check.slice("n2 c0721 h0331 l1210");
        for (int n = 0; n < 40; n++) {
            y.morning();
        }
        Check.both("reads(40)", x, x.reads(40), y.count(7), y.count(4));
        Check.bad("reads(41)", x.reads(41));
        Check.due("reads(40) is aside: DEEDS", x.count(3), 0);
        Check.due("reads(40) is aside: the next MORNING", x.count(2), 0);
        Check.due("reads(40) is aside: the TALLY", x.count(4), 0);
    }

    /** 40 DEEDS are no bound to what is asked aside: MORNINGS 40 to 79. */
    private static void readsBehindForty() {
        PeelReadings x = Check.slice("n1 i1510");
        int place = 15;
        for (int morning = 0; morning < 40; morning++) {
            x.morning();
            place = (5 * place + 1 + morning) % 16;
        }
        for (int n = 1; n <= 40; n++) {
            place = (5 * place + 1 + 39 + n) % 16;
            Check.both("reads(" + n + ") behind 40", x, x.reads(n), 1 << place / 4 | 1 << 4 + place % 4, 80 + 2 * n);
        }
        Check.due("MORNING 40 is next still", x.count(2), 40);
    }

    private static void readsOfLiftedOnes() {
        PeelReadings x = Check.slice("n1" + pips(0, 5));
        x.lift(0);
        x.lift(1);
        Check.both("reads(40) of LIFTED ones", x, x.reads(40), 0, 0);
        Check.due("first(0) of LIFTED ones", x.first(0), NONE);
        x.lift(1);
        // from 5 to 26 = 10
        Check.both("reads(1) of one of them", x, x.reads(1), Check.set(2, 6), 2);
    }

    private static void firstInTheFirst() {
        PeelReadings x = Check.slice("n1" + pips(0));
        // from 0 to 1, then to 7
        Check.due("first(5)", x.first(5), 1);
        Check.due("first(7)", x.first(7), 2);
        Check.due("first(4): that it is READ now is no MORNING", x.first(4) > 1 ? 1 : 0, 1);
        x.lick(1);
        Check.due("first(5), LICKED", x.first(5) > 1 ? 1 : 0, 1);
    }

    /** "In how many MORNINGS (1 .. 40)": the last that is one. */
    private static void firstInTheFortieth() {
        PeelReadings x = Check.slice("n4 p0740");
        Check.due("first(7)", x.first(7), 40);
        Check.due("reads(40) has it", x.reads(40) >> 7 & 1, 1);
        for (int n = 39; n >= 1; n--) {
            Check.due("reads(" + n + ") has it not", x.reads(n) >> 7 & 1, 0);
        }
        x.morning();
        Check.due("first(7) behind one", x.first(7), 39);
    }

    /** Line 2 is READ first in the 42nd: the first that is none is the 41st, seen from behind one. */
    private static void firstInNone() {
        PeelReadings x = Check.slice("n2 p0230");
        Check.due("first(2): in the 42nd", x.first(2), NONE);
        x.morning();
        Check.due("first(2): in the 41st", x.first(2), NONE);
        Check.due("first that is NONE is aside", x.count(3), 1);
        x.morning();
        Check.due("first(2): in the 40th", x.first(2), 40);
    }

    // ---- found

    private static void foundByNone() {
        PeelReadings x = Check.slice("n4 l0010 l0210 l0810 l1010");
        x.row(1, 40);
        Check.due("all READ already", x.found(255, 1), 0);
        Check.rowIs("all READ already", x, 1);
        Check.due("none wanted", x.found(0, 5), 0);
        Check.rowIs("none wanted", x, 5);
        PeelReadings y = Check.slice("n4" + pips(0));
        Check.due("none wanted, none READ", y.found(0, 0), 0);
        y.lift(0);
        Check.due("none wanted, all LIFTED", y.found(0, 0), 0);
        Check.due("one wanted, all LIFTED", y.found(1, 0), NONE);
    }

    private static PeelReadings liftedBut(String signs, int peels, int... these) {
        PeelReadings x = Check.slice(signs);
        for (int i = 0; i < peels; i++) {
            if ((Check.set(these) >> i & 1) == 0) {
                x.lift(i);
            }
        }
        return x;
    }

    private static void foundByTheLastOne() {
        PeelReadings x = liftedBut("n1" + pips(0, 0, 0, 0, 0, 0), 6, 5);
        x.row(1, 7);
        Check.due("lines 3, 7", x.found(Check.set(3, 7), 1), 1);
        Check.rowIs("lines 3, 7: the last to the last", x, 1, 5, 15);
        Check.due("lines 3, 6", x.found(Check.set(3, 6), 1), 1);
        Check.rowIs("lines 3, 6", x, 1, 5, 14);
    }

    private static void foundByTheFirstOne() {
        PeelReadings x = Check.slice("n1" + pips(15, 15));
        Check.due("line 0", x.found(Check.set(0), 0), 1);
        Check.rowIs("line 0: the lower number, the lower PLACE", x, 0, 0, 0);
        Check.due("lines 0, 3: one stays", x.found(Check.set(0, 3), 0), 1);
        Check.rowIs("lines 0, 3: one stays", x, 0, 0, 0);
        Check.due("line 7: READ already", x.found(Check.set(7), 0), 0);
    }

    private static void foundByTheLastTwo() {
        PeelReadings x = liftedBut("n1" + pips(0, 0, 0, 0, 0, 0), 6, 4, 5);
        Check.due("lines 2, 3, 6, 7", x.found(Check.set(2, 3, 6, 7), 2), 2);
        Check.rowIs("lines 2, 3, 6, 7: the lower PLACE of the first", x, 2, 4, 10, 5, 15);
        Check.due("lines 3, 6, 7", x.found(Check.set(3, 6, 7), 2), 2);
        // 2 makes line 6 READ, then 15; the second's lower PLACES don't
        Check.rowIs("lines 3, 6, 7", x, 2, 4, 2, 5, 15);
        x.lick(2);
        x.lick(6);
        x.lick(10);
        x.lick(3);
        x.lick(7);
        x.lick(11);
        Check.due("lines 3, 6, 7, LICKED", x.found(Check.set(3, 6, 7), 2), 2);
        Check.rowIs("lines 3, 6, 7, LICKED", x, 2, 4, 14, 5, 15);
    }

    private static void foundByTheFirstTwo() {
        PeelReadings x = Check.slice("n1" + pips(15, 15, 15));
        Check.due("lines 0, 1", x.found(Check.set(0, 1), 0), 2);
        Check.rowIs("lines 0, 1", x, 0, 0, 0, 1, 4);
        Check.due("lines 0, 1, 3", x.found(Check.set(0, 1, 3), 0), 2);
        Check.rowIs("lines 0, 1, 3", x, 0, 0, 0, 1, 4);
        Check.due("lines 0, 5", x.found(Check.set(0, 5), 0), 1);
        Check.rowIs("lines 0, 5: one is enough", x, 0, 0, 1);
    }

    /** Rows 0, 3 and columns 0, 2, 3: the PEEL to 2 and the PIP to 12, or the PEEL to 14 and the PIP to 0. */
    private static void foundSecondToTheFirstPlace() {
        PeelReadings x = Check.slice("n1 p0520 i0510");
        Check.due("lines 0, 3, 4, 6, 7", x.found(Check.set(0, 3, 4, 6, 7), 0), 2);
        Check.rowIs("lines 0, 3, 4, 6, 7", x, 0, 0, 2, 1, 12);
        x.lick(12);
        Check.due("lines 0, 3, 4, 6, 7, LICKED", x.found(Check.set(0, 3, 4, 6, 7), 0), 2);
        Check.rowIs("lines 0, 3, 4, 6, 7, LICKED", x, 0, 0, 14, 1, 0);
    }

    /** "LIFTED ones not": neither are they shifted, nor do they COVER. */
    private static void foundLiftedOnesNot() {
        PeelReadings x = liftedBut("n1" + pips(0, 5, 10, 15), 4, 1, 3);
        Check.due("lines 0, 2", x.found(Check.set(0, 2), 4), 2);
        Check.rowIs("lines 0, 2", x, 4, 1, 0, 3, 8);
        Check.due("line 0", x.found(Check.set(0), 4), 1);
        Check.rowIs("line 0", x, 4, 1, 0);
        Check.due("found is aside", x.count(5), Check.set(0, 2));
    }

    private static void foundLicked() {
        PeelReadings x = Check.slice("n1" + pips(15));
        for (int place = 0; place < 4; place++) {
            x.lick(place);
        }
        x.row(0, 2);
        Check.due("line 0, all of it LICKED", x.found(Check.set(0), 0), NONE);
        Check.rowIs("NONE leaves the ROW", x, 0, 0, 0);
        x.lick(3);
        Check.due("line 0, all but one LICKED", x.found(Check.set(0), 0), 1);
        Check.rowIs("line 0, all but one LICKED", x, 0, 0, 3);
        x.lick(15);
        Check.due("line 3, where it lies is LICKED", x.found(Check.set(3), 0), 1);
        Check.rowIs("line 3, where it lies is LICKED", x, 0, 0, 12);
    }

    /** "The fewest PEELS (0 to 2)" */
    private static void foundByThreeIsNone() {
        PeelReadings x = Check.slice("n1" + pips(15, 15, 15, 15));
        Check.due("two more rows", x.found(Check.set(0, 1), 0), 2);
        Check.due("three more rows", x.found(Check.set(0, 1, 2), 0), NONE);
        Check.due("no ROW by NONE", x.count(11), 1);
        Check.due("NONE for a ROW that is missing", x.found(Check.set(0, 1, 2), 5), NONE);
        Check.finds("it is missing still", x, x.at(5, 0), Check.NOTHING);
        Check.due("asked() is left by found", x.asked(), 0);
    }

    private static void foundOnOnePeel() {
        PeelReadings x = Check.slice("n1" + pips(15));
        Check.due("one row", x.found(Check.set(0), 0), 1);
        Check.due("two rows", x.found(Check.set(0, 1), 0), NONE);
        Check.due("all", x.found(255, 0), NONE);
    }

    /** Against true shifts: the fewest, and the first of these. */
    private static void foundIsTheFirst() {
        String signs = "n2 p0020 t0531 l1510";
        for (int lines = 0; lines < 256; lines += 17) {
            PeelReadings x = Check.slice(signs);
            int got = x.found(lines, 0);
            String want = byShifts(signs, lines);
            StringBuilder told = new StringBuilder(got == NONE ? "NONE" : "");
            for (int k = 0; k < 2 * got; k++) {
                x.at(0, k);
                told.append(x.asked()).append(' ');
            }
            Check.due("lines " + lines + ": " + told + "for " + want, told.toString().equals(want) ? 1 : 0, 1);
        }
    }

    private static boolean areRead(PeelReadings x, int lines) {
        return (x.count(7) & lines) == lines;
    }

    private static String byShifts(String signs, int lines) {
        PeelReadings x = Check.slice(signs);
        if (areRead(x, lines)) {
            return "";
        }
        for (int k = 0; k < 48; k++) {
            x.undo(0);
            x.shift(k / 16, k % 16);
            if (areRead(x, lines)) {
                return k / 16 + " " + k % 16 + " ";
            }
        }
        int[][] pairs = {{0, 1}, {0, 2}, {1, 2}};
        for (int[] pair : pairs) {
            for (int k = 0; k < 256; k++) {
                // an object is good for 512 calls
                if (k % 64 == 0) {
                    x = Check.slice(signs);
                }
                x.undo(0);
                x.shift(pair[0], k / 16);
                x.shift(pair[1], k % 16);
                if (areRead(x, lines)) {
                    return pair[0] + " " + k / 16 + " " + pair[1] + " " + k % 16 + " ";
                }
            }
        }
        return "NONE";
    }

    // ---- best

    /** "the first" */
    private static void bestFirstOfEqual() {
        PeelReadings x = Check.slice("n1" + pips(9));
        Check.both("two LINES anywhere", x, x.best(0), 0, 2);
        x.lick(0);
        Check.both("two LINES anywhere but there", x, x.best(0), 1, 2);
        Check.told("best is aside: its PLACE", x, x.peel(0, 1), 9);
    }

    private static void bestAtTheLastPlace() {
        PeelReadings x = Check.slice("n2" + pips(0, 11, 14));
        Check.both("10 or 15", x, x.best(0), 10, 2);
        x.lick(10);
        Check.both("15", x, x.best(0), 15, 2);
        Check.both("the last PEEL", x, x.best(2), 3, 2);
    }

    private static void bestOfNoneAndAll() {
        PeelReadings x = Check.slice("n4" + pips(7));
        Check.both("none is READ anywhere", x, x.best(0), 0, 0);
        PeelReadings y = Check.slice("n1 p0041 p0540");
        Check.both("all are READ", y, y.best(1), 0, 8);
        y.lick(1);
        Check.both("all are READ, one LICKED", y, y.best(1), 4, 8);
    }

    /** "set down, if it is LIFTED", other LIFTED ones not */
    private static void bestOfALiftedOne() {
        PeelReadings x = Check.slice("n2" + pips(0, 11, 14));
        x.lift(0);
        Check.both("LIFTED", x, x.best(0), 10, 2);
        Check.due("best is aside: LIFTED", x.count(5), 1);
        x.lift(1);
        Check.both("another LIFTED, too", x, x.best(0), 2, 1);
        x.lift(2);
        Check.both("all LIFTED", x, x.best(0), 0, 0);
        PeelReadings y = Check.slice("n2 p0021");
        Check.both("as it lies", y, y.best(0), 0, 1);
        Check.due("as it lies: DOWN", y.covers(0, 0, 1), Check.set(0, 4));
        y.lick(0);
        y.lick(1);
        y.lick(2);
        y.lick(3);
        Check.both("as it lies: DOWN from 4", y, y.best(0), 4, 1);
    }
}
