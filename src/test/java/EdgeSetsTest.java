/** The ends of promises 29 to 35: gaps of 0 to 8 LICKED PLACES, ROWS of 1 to 10 that were READ, LENGTHS of 0 to 24. */
final class EdgeSetsTest {
    private static final int NONE = PeelReadings.NONE;

    public static void main(String[] args) {
        gapWithoutLicked();
        gapOfOne();
        gapOfEight();
        gapOfEightThatTellsNothing();
        gapOfAllLines();
        gapCountsJustTheseLines();
        gapOfNone();
        gapOfEachSetOfLines();
        sureOfAllAndNone();
        sureOfTheLastPlace();
        sureOfNone();
        seenRowOfOneToTen();
        seenNumbers0To255();
        seenInTheTenth();
        placesAllAndNone();
        placesFromNowOn();
        kindsAllAndNone();
        kindsInTheTenth();
        nextOfOne();
        nextLastLine();
        nextFirstOfEqual();
        nextOfNone();
        nextBehindTen();
        setsOfNothing();
        setsOf24();
        setsBeyondAll();
        setsOfSixAlike();
        setsTheFirst();
        setsOfLiftedOnes();
        surelyAllAndNone();
        surelyOfNone();
        Check.end();
    }

    private static PeelReadings licked(String signs, int... places) {
        PeelReadings x = Check.slice(signs);
        for (int place : places) {
            x.lick(place);
        }
        return x;
    }

    private static void gapIs(String name, PeelReadings x, int lines, int many, int least) {
        Check.chance(name, x, x.gap(lines), many, 1);
        Check.due(name + ": the least", x.asked(), least);
    }

    // ---- gap, sure

    private static void gapWithoutLicked() {
        PeelReadings x = Check.slice("n1 i0510");
        gapIs("just what is READ", x, Check.set(1, 5), 1, 0);
        gapIs("one LINE fewer", x, Check.set(1), 0, NONE);
        gapIs("one LINE more", x, Check.set(1, 2, 5), 0, NONE);
        gapIs("none", x, 0, 0, NONE);
        gapIs("all", x, 255, 0, NONE);
        Check.both("sure without LICKED ones", x, x.sure(Check.set(1, 5)), 0, 0);
    }

    private static void gapOfOne() {
        PeelReadings x = licked("n1 i0510", 15);
        gapIs("empty", x, Check.set(1, 5), 1, 0);
        gapIs("PLACE 15", x, Check.set(1, 3, 5, 7), 1, 1 << 15);
        PeelReadings y = licked("n1 i0510", 5);
        gapIs("LICKED where it lies: empty", y, 0, 1, 0);
        gapIs("LICKED where it lies", y, Check.set(1, 5), 1, 1 << 5);
    }

    private static void gapOfEight() {
        PeelReadings x = licked("n4 i0010", 8, 9, 10, 11, 12, 13, 14, 15);
        gapIs("none: neither row is whole", x, 0, 225, 0);
        gapIs("row 2", x, Check.set(2), 15, Check.set(8, 9, 10, 11));
        gapIs("row 3", x, Check.set(3), 15, Check.set(12, 13, 14, 15));
        gapIs("rows 2, 3", x, Check.set(2, 3), 1, Check.set(8, 9, 10, 11, 12, 13, 14, 15));
        Check.both("sure of row 3", x, x.sure(Check.set(3)), Check.set(12, 13, 14, 15), 0);
        Check.both("sure of rows 2, 3", x, x.sure(Check.set(2, 3)), 255 << 8, 0);
        Check.both("sure of none", x, x.sure(0), 0, 0);
    }

    private static void gapOfEightThatTellsNothing() {
        PeelReadings x = licked("n4 i0010", 0, 2, 5, 7, 8, 10, 13, 15);
        gapIs("256 sets", x, 0, 256, 0);
        Check.both("sure of 256 sets", x, x.sure(0), 0, 0);
        PeelReadings y = licked("n1 p0040 p0041", 5, 6, 7, 9, 10, 11, 13, 14);
        gapIs("all READ by each of 256", y, 255, 256, 0);
    }

    private static void gapOfAllLines() {
        PeelReadings x = Check.slice("n4 l0010 l0210 l0810 l1010");
        x.lick(0);
        gapIs("all but two", x, 255 & ~Check.set(0, 4), 1, 0);
        gapIs("all", x, 255, 1, 1);
        Check.both("sure of all", x, x.sure(255), 1, 0);
        Check.both("sure of all but two", x, x.sure(255 & ~Check.set(0, 4)), 0, 1);
        Check.bad("gap(256)", x.gap(256));
        Check.bad("gap(-1)", x.gap(-1));
    }

    /** "make just a set of LINES READ" */
    private static void gapCountsJustTheseLines() {
        PeelReadings x = licked("n1 p0010", 0, 1, 4);
        gapIs("none", x, 0, 1, 0);
        gapIs("row 0, column 0: by 0", x, Check.set(0, 4), 1, Check.set(0));
        gapIs("row 0, column 1: by 1", x, Check.set(0, 5), 1, Check.set(1));
        gapIs("row 1, column 0: by 4", x, Check.set(1, 4), 1, Check.set(4));
        gapIs("by 1, 4, or by all", x, Check.set(0, 1, 4, 5), 2, Check.set(1, 4));
        gapIs("row 0 alone", x, Check.set(0), 0, NONE);
    }

    private static void gapOfNone() {
        PeelReadings x = licked("n2 i0010", 1, 2);
        gapIs("none fits", x, 255, 0, NONE);
        Check.due("none fits is no FINDING", x.finding(), 0);
        Check.finds("sure of that", x, x.sure(255), Check.NOUGHT);
        Check.due("sure of that tells nothing", x.asked(), NONE);
        Check.due("sure of that: findings", x.findings(Check.NOUGHT), 1);
    }

    /** All is COVERED but what is LICKED, so each set leaves what is neither. */
    private static void gapOfEachSetOfLines() {
        int[] places = {1, 6, 7, 12};
        for (int lines = 0; lines < 256; lines++) {
            int many = 0;
            int least = NONE;
            for (int k = 0; k < 16; k++) {
                int covered = 65535;
                int set = 0;
                for (int j = 0; j < 4; j++) {
                    covered &= (k >> j & 1) == 1 ? -1 : ~(1 << places[j]);
                    set |= (k >> j & 1) << places[j];
                }
                if (linesBy(covered, 4) == lines) {
                    many++;
                    least = least == NONE ? set : least;
                }
            }
            gapIs("lines " + lines, licked("n4 p0040 p0440 p0840 p1240", places), lines, many, least);
        }
    }

    private static int linesBy(int covered, int need) {
        int lines = 0;
        for (int line = 0; line < 8; line++) {
            int many = 0;
            for (int k = 0; k < 4; k++) {
                many += covered >> (line < 4 ? line * 4 + k : k * 4 + line - 4) & 1;
            }
            lines |= many >= need ? 1 << line : 0;
        }
        return lines;
    }

    private static void sureOfAllAndNone() {
        PeelReadings x = licked("n2 p0020", 1, 2, 3, 15);
        // 0 is COVERED: line 0 by one of 1, 2, 3 besides; column 3 by both 3, 15
        Check.both("none READ: neither of 1, 2, 3", x, x.sure(0), 0, Check.set(1, 2, 3));
        Check.both("lines 0, 7: both 3, 15", x, x.sure(Check.set(0, 7)), Check.set(3, 15), 0);
        Check.both("line 0", x, x.sure(Check.set(0)), 0, 0);
    }

    private static void sureOfTheLastPlace() {
        PeelReadings x = licked("n1 i0510", 0, 15);
        Check.both("with 15", x, x.sure(Check.set(1, 3, 5, 7)), 1 << 15, 1);
        Check.both("with 0", x, x.sure(Check.set(0, 1, 4, 5)), 1, 1 << 15);
        Check.both("without", x, x.sure(Check.set(1, 5)), 0, 1 | 1 << 15);
        Check.both("with both", x, x.sure(Check.set(0, 1, 3, 4, 5, 7)), 1 | 1 << 15, 0);
    }

    private static void sureOfNone() {
        PeelReadings x = Check.slice("n1 i0510");
        Check.finds("without LICKED ones", x, x.sure(0), Check.NOUGHT);
        Check.bad("sure(256)", x.sure(256));
        Check.bad("sure(-1)", x.sure(-1));
        Check.due("upper() is left by sure", x.upper(), 0);
    }

    // ---- by what was read

    private static int ask(PeelReadings x, int which, int i, int r) {
        return which == 0 ? x.places(i, r) : which == 1 ? x.kinds(i, r) : x.next(i, r);
    }

    /** "a ROW of 1 to 10 ints" */
    private static void seenRowOfOneToTen() {
        for (int which = 0; which < 3; which++) {
            for (int size = 0; size <= 40; size++) {
                PeelReadings x = Check.slice("n1 i0510");
                x.row(3, size);
                if (size < 1 || size > 10) {
                    Check.finds("a ROW of " + size, x, ask(x, which, 0, 3), Check.SIZE);
                } else {
                    // nothing READ is what no PLACE of a PIP by 1 can be
                    Check.due("a ROW of " + size, ask(x, which, 0, 3), which == 2 ? NONE : 0);
                    Check.due("a ROW of " + size + " is no FINDING", x.finding(), 0);
                }
            }
        }
    }

    /** "bits 0 .. 255", in each of the places */
    private static void seenNumbers0To255() {
        for (int which = 0; which < 3; which++) {
            for (int k = 0; k < 10; k++) {
                PeelReadings x = Check.slice("n1 i0510");
                x.row(3, 10);
                for (int wrong : new int[] {-1, 256, Integer.MIN_VALUE, Integer.MAX_VALUE}) {
                    x.lay(3, k, wrong);
                    Check.finds(wrong + " in place " + k, x, ask(x, which, 0, 3), Check.UNLIKE);
                }
                for (int right : new int[] {0, 255}) {
                    x.lay(3, k, right);
                    Check.due(right + " in place " + k, ask(x, which, 0, 3), which == 2 ? NONE : 0);
                }
            }
        }
    }

    private static void laySeen(PeelReadings x, int r, int size) {
        x.row(r, size);
        for (int k = 0; k < size; k++) {
            x.lay(r, k, x.reads(k + 1));
        }
    }

    private static void seenInTheTenth() {
        PeelReadings x = Check.slice("n1 i0510 p1230");
        laySeen(x, 0, 10);
        Check.due("ten as they come", x.places(0, 0), Check.set(5));
        Check.due("ten as they come: the other", x.places(1, 0) >> 12 & 1, 1);
        x.at(0, 9);
        x.lay(0, 9, x.asked() ^ 128);
        Check.due("the tenth is another", x.places(0, 0), 0);
        Check.due("the tenth is another: next", x.next(0, 0), NONE);
        laySeen(x, 0, 9);
        Check.due("nine as they come", x.places(0, 0), Check.set(5));
    }

    private static void placesAllAndNone() {
        PeelReadings x = Check.slice("n1 i0510 i0010");
        x.lift(0);
        laySeen(x, 0, 10);
        Check.due("a LIFTED one lies anywhere", x.places(0, 0), 65535);
        Check.due("the other one lies at 0", x.places(1, 0), 1);
        x.lay(0, 0, 255);
        Check.due("a LIFTED one lies nowhere", x.places(0, 0), 0);
        PeelReadings y = Check.slice("n1 i0510");
        for (int place = 0; place < 16; place++) {
            y.undo(0);
            y.shift(0, place);
            laySeen(y, 0, 1);
            Check.due("at " + place, y.places(0, 0), 1 << place);
        }
    }

    /** "MORNINGS from now on": their numbers go on, and PLACES are LICKED as they are. */
    private static void placesFromNowOn() {
        PeelReadings x = Check.slice("n1 i0510");
        for (int k = 0; k < 5; k++) {
            x.morning();
        }
        // MORNING 5 is next: from p to 5 p + 1 + 5; it is at 0 from 2
        Check.row(x, 0, Check.set(0, 4));
        Check.due("to 0 in MORNING 5", x.places(0, 0), Check.set(2));
        x.lick(0);
        Check.due("to 0, which is LICKED", x.places(0, 0), 0);
        Check.row(x, 0, 0);
        Check.due("nothing READ, so it is at 0", x.places(0, 0), Check.set(2));
        Check.due("places is aside: DEEDS", x.count(3), 6);
        Check.due("places is aside: the next MORNING", x.count(2), 5);
    }

    private static void kindsAllAndNone() {
        PeelReadings x = Check.slice("n1 i0210");
        // by LENGTH 1 to 11, 57 = 9; PEEL, THIN, HAIR and PIP COVER their PLACE alone
        laySeen(x, 0, 2);
        Check.due("four KINDS by two", x.kinds(0, 0), Check.set(0, 1, 4, 5));
        x.lay(0, 0, 255);
        Check.due("no KIND", x.kinds(0, 0), 0);
        PeelReadings y = Check.slice("n2 i1140 p0010");
        y.lift(0);
        laySeen(y, 0, 10);
        Check.due("a LIFTED one is of any", y.kinds(0, 0), 63);
        // it falls from 14 to 10, where none of them COVERS four in a line
        PeelReadings z = Check.slice("n4 i1440");
        Check.row(z, 0, 0);
        Check.due("any by nothing READ", z.kinds(0, 0), 63);
    }

    private static void kindsInTheTenth() {
        for (int kind = 0; kind < 6; kind++) {
            PeelReadings x = Check.slice("n2 " + "ptlchi".charAt(kind) + "0041 p0820");
            laySeen(x, 0, 10);
            Check.due("its KIND fits", x.kinds(0, 0) >> kind & 1, 1);
            Check.told("kinds is aside", x, x.peel(0, 0), kind);
            x.at(0, 9);
            x.lay(0, 9, x.asked() ^ 1);
            Check.due("its KIND does not fit", x.kinds(0, 0) >> kind & 1, 0);
        }
    }

    private static void nextOfOne() {
        PeelReadings x = Check.slice("n1 i0510");
        laySeen(x, 0, 1);
        Check.both("one PLACE: any LINE is as good", x, x.next(0, 0), 0, 1);
    }

    /**
     * A THIN one DOWN by 4 makes line 6 READ from 2 and 6, so it lay at 6 or 10; then it falls to 15, where nothing is
     * READ, or to 3, where line 7 is.
     */
    private static void nextLastLine() {
        PeelReadings x = Check.slice("n2 t0041");
        Check.row(x, 0, Check.set(6));
        Check.due("two PLACES", x.places(0, 0), Check.set(6, 10));
        Check.both("line 7 tells them apart", x, x.next(0, 0), 7, 1);
    }

    private static void nextFirstOfEqual() {
        PeelReadings x = Check.slice("n2 i0010 i0510");
        // nothing is READ by two PIPS in most PLACES
        Check.row(x, 0, 0);
        int places = x.places(0, 0);
        int[] parts = partsByDeeds("n2 i0010 i0510", places, 2);
        int line = 0;
        for (int l = 7; l >= 0; l--) {
            line = parts[l] <= parts[line] ? l : line;
        }
        Check.both("by true DEEDS", x, x.next(0, 0), line, parts[line]);
    }

    /** Of each LINE the greater part of the PLACES of PEEL 0 by which it is READ, or is not, in the last of the MORNINGS. */
    private static int[] partsByDeeds(String signs, int places, int mornings) {
        int[] read = new int[8];
        for (int place = 0; place < 16; place++) {
            PeelReadings x = Check.slice(signs);
            x.shift(0, place);
            int lines = 0;
            for (int k = 0; k < mornings; k++) {
                lines = x.morning();
            }
            for (int line = 0; line < 8; line++) {
                read[line] += (places >> place & 1) * (lines >> line & 1);
            }
        }
        for (int line = 0; line < 8; line++) {
            read[line] = Math.max(read[line], Integer.bitCount(places) - read[line]);
        }
        return read;
    }

    /** "NONE: there is no PLACE." */
    private static void nextOfNone() {
        PeelReadings x = Check.slice("n1 i0510");
        Check.row(x, 0, 77);
        x.row(1, 1);
        x.at(0, 0);
        Check.due("no PLACE", x.next(0, 1), NONE);
        Check.due("NONE tells nothing", x.asked(), 77);
        Check.due("NONE is no FINDING", x.finding(), 0);
    }

    /** "in the MORNING behind these": the eleventh. */
    private static void nextBehindTen() {
        String signs = "n4 c0041 p0820";
        PeelReadings x = Check.slice(signs);
        laySeen(x, 0, 10);
        int places = x.places(0, 0);
        int[] parts = partsByDeeds(signs, places, 11);
        int line = 0;
        for (int l = 7; l >= 0; l--) {
            line = parts[l] <= parts[line] ? l : line;
        }
        Check.both("behind ten", x, x.next(0, 0), line, parts[line]);
        Check.due("next is aside: DEEDS", x.count(3), 0);
        Check.due("next is aside: the next MORNING", x.count(2), 0);
    }

    // ---- whose lengths

    private static void setsAre(String name, PeelReadings x, int v, int many, int first) {
        Check.chance(name, x, x.sets(v), many, 1);
        Check.due(name + ": the first", x.asked(), first);
    }

    private static void setsOfNothing() {
        PeelReadings x = Check.slice("n1 p0010 p0010 p0010 p0010 p0010 p0010");
        setsAre("nothing", x, 0, 1, 0);
        Check.both("surely nothing", x, x.surely(0), 0, 63);
        Check.bad("sets(-1)", x.sets(-1));
    }

    private static void setsOf24() {
        PeelReadings x = Check.slice("n1 p0040 p0040 p0040 p0040 p0040 p0040");
        setsAre("24", x, 24, 1, 63);
        Check.both("surely 24", x, x.surely(24), 63, 0);
        setsAre("23", x, 23, 0, NONE);
        setsAre("20", x, 20, 6, 31);
        setsAre("4", x, 4, 6, 1);
        Check.bad("sets(25)", x.sets(25));
        Check.bad("surely(25)", x.surely(25));
    }

    private static void setsBeyondAll() {
        PeelReadings x = Check.slice("n1 p0040 p0030");
        setsAre("all", x, 7, 1, 3);
        setsAre("one beyond", x, 8, 0, NONE);
        setsAre("far beyond", x, 24, 0, NONE);
        Check.finds("surely one beyond", x, x.surely(8), Check.NOUGHT);
        Check.due("sets of none is no FINDING", x.findings(Check.NOUGHT), 1);
    }

    private static void setsOfSixAlike() {
        PeelReadings x = Check.slice("n1 p0010 p0010 p0010 p0010 p0010 p0010");
        int[] many = {1, 6, 15, 20, 15, 6, 1, 0};
        for (int v = 0; v < many.length; v++) {
            setsAre(v + " of six", x, v, many[v], v > 6 ? NONE : (1 << v) - 1);
        }
    }

    private static void setsTheFirst() {
        PeelReadings x = Check.slice("n1 p0010 p0020 p0030 p0040");
        setsAre("5: 2 + 3, 1 + 4", x, 5, 2, Check.set(1, 2));
        setsAre("4: 1 + 3, 4", x, 4, 2, Check.set(0, 2));
        setsAre("10", x, 10, 1, 15);
    }

    /** "sets of PEELS": LIFTED ones are PEELS. */
    private static void setsOfLiftedOnes() {
        PeelReadings x = Check.slice("n1 p0010 p0020");
        x.lift(0);
        x.lift(1);
        setsAre("3 of LIFTED ones", x, 3, 1, 3);
        Check.both("surely 3 of LIFTED ones", x, x.surely(3), 3, 0);
    }

    private static void surelyAllAndNone() {
        PeelReadings x = Check.slice("n1 p0010 p0020 p0030 p0040");
        Check.both("all", x, x.surely(10), 15, 0);
        Check.both("all but the first", x, x.surely(9), Check.set(1, 2, 3), Check.set(0));
        Check.both("none in each, none in none", x, x.surely(5), 0, 0);
        Check.both("the first alone", x, x.surely(1), 1, Check.set(1, 2, 3));
        Check.both("8: 1 + 3 + 4", x, x.surely(8), Check.set(0, 2, 3), Check.set(1));
    }

    private static void surelyOfNone() {
        PeelReadings x = Check.slice("n1 p0040");
        x.surely(4);
        for (int v = 0; v <= 24; v++) {
            if (v != 0 && v != 4) {
                Check.finds("surely(" + v + ")", x, x.surely(v), Check.NOUGHT);
                Check.due("surely(" + v + ") tells nothing", x.asked(), 0);
            }
        }
        Check.due("upper() is left by surely", x.upper(), 0);
    }
}
