/** The ends of promises 12, 13, 22, 24: what PEELS COVER by the SLICE's edges, all of them; what they WEIGH and tell. */
final class EdgeCoverTest {
    private static final String LETTERS = "ptlchi";
    private static final int PEEL = 0, THIN = 1, LUMP = 2, CURL = 3, HAIR = 4, PIP = 5;

    public static void main(String[] args) {
        everyPeelEverywhere();
        acrossStopsAtTheRight();
        downStopsAtTheFoot();
        thinTheFirstTheThird();
        lumpByTheEdges();
        curlByTheEdges();
        hairByTheEdges();
        pipItsPlaceAlone();
        traitsOfTheLastPeel();
        coversLiftedLickedOrNot();
        weightsOfKinds();
        marksOfThin();
        marksOfLumps();
        marksOfCurls();
        marksOfHairs();
        marksOfPips();
        marksByWhereItLies();
        weighsNone();
        weighsAll();
        weighsByOnePlace();
        Check.end();
    }

    // ---- what each covers, worked out row by row and column by column

    private static int place(int row, int column) {
        return row < 4 && column < 4 ? 1 << row * 4 + column : 0;
    }

    private static int along(int place, int step, int down) {
        return down == 1 ? place(place / 4 + step, place % 4) : place(place / 4, place % 4 + step);
    }

    private static int straight(int place, int length, int down) {
        int cover = 0;
        for (int step = 0; step < length; step++) {
            cover |= along(place, step, down);
        }
        return cover;
    }

    private static int thin(int place, int length, int down) {
        return along(place, 0, down) | (length >= 3 ? along(place, 2, down) : 0);
    }

    private static int coverOf(int kind, int place, int length, int down) {
        int row = place / 4;
        int column = place % 4;
        switch (kind) {
            case PEEL: return straight(place, length, down);
            case THIN: return thin(place, length, down);
            case LUMP: return place(row, column) | place(row, column + 1) | place(row + 1, column) | place(row + 1, column + 1);
            case CURL: return straight(place, length, down) | straight(place, 2, 1 - down);
            case HAIR: return thin(place, length, down) | thin(place, length, 1 - down);
            default: return place(row, column);
        }
    }

    private static String item(int kind, int place, int length, int down) {
        return "" + LETTERS.charAt(kind) + place / 10 + place % 10 + length + down;
    }

    /** As it lies by its item, as it would lie by covers(), and as it lies when it came there by DEEDS. */
    private static void everyPeelEverywhere() {
        for (int kind = 0; kind < 6; kind++) {
            for (int length = 1; length <= 4; length++) {
                PeelReadings x = Check.slice("n1 " + item(kind, 15, length, 1));
                for (int k = 0; k < 32; k++) {
                    int place = k / 2;
                    int down = k % 2;
                    String name = item(kind, place, length, down);
                    int want = coverOf(kind, place, length, down);
                    Check.due(name + " would COVER", x.covers(0, place, down), want);
                    PeelReadings y = Check.slice("n1 " + name);
                    Check.told(name + " COVERS", y, y.peel(0, 5), want);
                    Check.due(name + ": COVERED", y.covered(), want);
                    x.undo(0);
                    x.shift(0, place);
                    if (down == 0) {
                        x.turn(0);
                    }
                    Check.told(name + " COVERS, shifted", x, x.peel(0, 5), want);
                }
            }
        }
    }

    private static void coversAre(PeelReadings x, int place, int down, int... want) {
        Check.due("covers(0, " + place + ", " + down + ")", x.covers(0, place, down), Check.set(want));
    }

    /** "the same row, on to higher columns .. as far as there are any" */
    private static void acrossStopsAtTheRight() {
        PeelReadings x = Check.slice("n1 p0040");
        coversAre(x, 4, 0, 4, 5, 6, 7);
        coversAre(x, 5, 0, 5, 6, 7);
        coversAre(x, 6, 0, 6, 7);
        coversAre(x, 7, 0, 7);
        coversAre(x, 15, 0, 15);
        coversAre(x, 12, 0, 12, 13, 14, 15);
        coversAre(Check.slice("n1 p0010"), 4, 0, 4);
    }

    /** "the same column, on to higher rows .. as far as there are any" */
    private static void downStopsAtTheFoot() {
        PeelReadings x = Check.slice("n1 p0040");
        coversAre(x, 2, 1, 2, 6, 10, 14);
        coversAre(x, 6, 1, 6, 10, 14);
        coversAre(x, 10, 1, 10, 14);
        coversAre(x, 14, 1, 14);
        coversAre(x, 15, 1, 15);
        coversAre(x, 3, 1, 3, 7, 11, 15);
        coversAre(Check.slice("n1 p0010"), 4, 1, 4);
    }

    /** "A THIN one of these the first, the third." */
    private static void thinTheFirstTheThird() {
        coversAre(Check.slice("n1 t0010"), 0, 0, 0);
        coversAre(Check.slice("n1 t0020"), 0, 0, 0);
        coversAre(Check.slice("n1 t0030"), 0, 0, 0, 2);
        PeelReadings x = Check.slice("n1 t0040");
        coversAre(x, 0, 0, 0, 2);
        coversAre(x, 1, 0, 1, 3);
        coversAre(x, 2, 0, 2);
        coversAre(x, 3, 1, 3, 11);
        coversAre(x, 7, 1, 7, 15);
        coversAre(x, 11, 1, 11);
    }

    /** "whatever its LENGTH" */
    private static void lumpByTheEdges() {
        for (int length = 1; length <= 4; length++) {
            PeelReadings x = Check.slice("n1 l00" + length + "0");
            for (int down = 0; down < 2; down++) {
                coversAre(x, 0, down, 0, 1, 4, 5);
                coversAre(x, 10, down, 10, 11, 14, 15);
                coversAre(x, 3, down, 3, 7);
                coversAre(x, 11, down, 11, 15);
                coversAre(x, 12, down, 12, 13);
                coversAre(x, 14, down, 14, 15);
                coversAre(x, 15, down, 15);
            }
        }
    }

    /** "what a PEEL of LENGTH 2 there COVERS that lies the other way" */
    private static void curlByTheEdges() {
        PeelReadings x = Check.slice("n1 c0010");
        coversAre(x, 0, 0, 0, 4);
        coversAre(x, 0, 1, 0, 1);
        coversAre(x, 3, 1, 3);
        coversAre(x, 12, 0, 12);
        PeelReadings y = Check.slice("n1 c0040");
        coversAre(y, 0, 0, 0, 1, 2, 3, 4);
        coversAre(y, 0, 1, 0, 4, 8, 12, 1);
        coversAre(y, 3, 0, 3, 7);
        coversAre(y, 12, 1, 12, 13);
        coversAre(y, 15, 0, 15);
    }

    /** "what a THIN one of its LENGTH there COVERS that lies the other way" */
    private static void hairByTheEdges() {
        PeelReadings two = Check.slice("n1 h0020");
        coversAre(two, 0, 0, 0);
        PeelReadings three = Check.slice("n1 h0030");
        for (int down = 0; down < 2; down++) {
            coversAre(three, 0, down, 0, 2, 8);
            coversAre(three, 5, down, 5, 7, 13);
            coversAre(three, 6, down, 6, 14);
            coversAre(three, 9, down, 9, 11);
            coversAre(three, 10, down, 10);
        }
    }

    private static void pipItsPlaceAlone() {
        PeelReadings x = Check.slice("n1 i0040");
        for (int place = 0; place < 16; place++) {
            coversAre(x, place, 0, place);
            coversAre(x, place, 1, place);
        }
    }

    private static void traitsOfTheLastPeel() {
        PeelReadings x = Check.slice("n1 p0010 p0010 p0010 p0010 p0010 l1441");
        int[] want = {2, 14, 4, 1, 0, Check.set(14, 15), 3};
        for (int what = 0; what < want.length; what++) {
            Check.told("peel(5, " + what + ")", x, x.peel(5, what), want[what]);
        }
        Check.bad("peel(5, 7)", x.peel(5, 7));
        Check.bad("peel(6, 6)", x.peel(6, 6));
    }

    /** "PLACES that it COVERS (bits, LIFTED, LICKED or not)" */
    private static void coversLiftedLickedOrNot() {
        PeelReadings x = Check.slice("n1 p1240 i0010");
        for (int place = 12; place < 16; place++) {
            x.lick(place);
        }
        Check.told("LICKED", x, x.peel(0, 5), Check.set(12, 13, 14, 15));
        x.lift(0);
        Check.told("LIFTED", x, x.peel(0, 4), 1);
        Check.told("LIFTED, LICKED", x, x.peel(0, 5), Check.set(12, 13, 14, 15));
        Check.due("LIFTED, LICKED: would COVER", x.covers(0, 12, 0), Check.set(12, 13, 14, 15));
        x.lift(0);
        Check.told("set down", x, x.peel(0, 4), 0);
    }

    private static void weightsOfKinds() {
        int[] want = {1, 1, 3, 2, 1, 3};
        for (int kind = 0; kind < 6; kind++) {
            for (int length = 1; length <= 4; length++) {
                PeelReadings x = Check.slice("n1 " + item(kind, 15, length, 0));
                Check.told("what KIND " + kind + " WEIGHS", x, x.peel(0, 6), want[kind]);
            }
        }
    }

    // ---- mark

    private static void markIs(String signs, int kind, int want) {
        Check.due("mark(0, " + kind + ") of " + signs, Check.slice("n1 " + signs).mark(0, kind), want);
    }

    /** "how many PLACES that a PEEL in its stead would COVER it does not" */
    private static void marksOfThin() {
        markIs("t0010", THIN, 0);
        markIs("t0020", THIN, 1);
        markIs("t0030", THIN, 1);
        markIs("t0040", THIN, 2);
        markIs("t0240", THIN, 1);
        markIs("t0340", THIN, 0);
        markIs("t0341", THIN, 2);
        markIs("t1541", THIN, 0);
        markIs("h0040", THIN, 2);
        markIs("h0020", THIN, 1);
        markIs("h1541", THIN, 0);
    }

    /** "how many PEELS, itself too, WEIGH as much" */
    private static void marksOfLumps() {
        markIs("l0010", LUMP, 1);
        markIs("i0010", LUMP, 1);
        markIs("l0010 p0010 t0010 c0010 h0010", LUMP, 1);
        markIs("l0010 i0010 l0010 i0010 l0010 i0010", LUMP, 6);
        PeelReadings x = Check.slice("n1 i0010 c0010 l1541");
        x.lift(0);
        x.lift(2);
        Check.due("LIFTED ones too", x.mark(0, LUMP), 2);
        Check.due("of a LIFTED one", x.mark(2, LUMP), 2);
    }

    /** "how many it COVERS that a PEEL in its stead would not" */
    private static void marksOfCurls() {
        markIs("c0010", CURL, 1);
        markIs("c0041", CURL, 1);
        markIs("c1240", CURL, 0);
        markIs("c1241", CURL, 1);
        markIs("c0341", CURL, 0);
        markIs("c0340", CURL, 1);
        markIs("c1510", CURL, 0);
    }

    /** "how many that a THIN one would not" */
    private static void marksOfHairs() {
        markIs("h0010", HAIR, 0);
        markIs("h0020", HAIR, 0);
        markIs("h0030", HAIR, 1);
        markIs("h0640", HAIR, 1);
        markIs("h0641", HAIR, 0);
        markIs("h0940", HAIR, 0);
        markIs("h0941", HAIR, 1);
        markIs("h1040", HAIR, 0);
    }

    /** "how many fewer than a LUMP" */
    private static void marksOfPips() {
        markIs("i0040", PIP, 3);
        markIs("i1040", PIP, 3);
        markIs("i0340", PIP, 1);
        markIs("i1140", PIP, 1);
        markIs("i1240", PIP, 1);
        markIs("i1440", PIP, 1);
        markIs("i1540", PIP, 0);
    }

    /** All KINDS that a PEEL is of, and UNLIKE for all others, wherever it lies. */
    private static void marksByWhereItLies() {
        for (int kind = 0; kind < 6; kind++) {
            for (int k = 0; k < 128; k++) {
                int place = k / 8;
                int length = 1 + k / 2 % 4;
                int down = k % 2;
                PeelReadings x = Check.slice("n1 " + item(kind, place, length, down));
                int own = coverOf(kind, place, length, down);
                int[] want = {PeelReadings.BAD,
                    kind == THIN || kind == HAIR ? fewer(coverOf(PEEL, place, length, down), own) : PeelReadings.FINDING,
                    kind == LUMP || kind == PIP ? 1 : PeelReadings.FINDING,
                    kind == CURL ? fewer(own, coverOf(PEEL, place, length, down)) : PeelReadings.FINDING,
                    kind == HAIR ? fewer(own, coverOf(THIN, place, length, down)) : PeelReadings.FINDING,
                    kind == PIP ? fewer(coverOf(LUMP, place, length, down), own) : PeelReadings.FINDING};
                for (int as = 0; as < 6; as++) {
                    Check.due("mark(0, " + as + ") of " + item(kind, place, length, down), x.mark(0, as), want[as]);
                }
            }
        }
    }

    private static int fewer(int a, int b) {
        return Integer.bitCount(a & ~b);
    }

    // ---- weighs

    private static void weighsNone() {
        PeelReadings x = Check.slice("n1 l0510");
        int[] want = {0, 3, 3, 0, 0, 3, 3, 0};
        for (int line = 0; line < 8; line++) {
            Check.due("weighs(" + line + ")", x.weighs(line), want[line]);
        }
        x.lift(0);
        for (int line = 0; line < 8; line++) {
            Check.due("weighs(" + line + "), LIFTED", x.weighs(line), 0);
        }
    }

    private static void weighsAll() {
        PeelReadings x = Check.slice("n4 l0010 l0010 i0010 i0010 l0010 i0010");
        Check.due("weighs(0) of six", x.weighs(0), 18);
        Check.due("weighs(5) of three LUMPS", x.weighs(5), 9);
        x.lift(5);
        Check.due("weighs(0) but the LIFTED one", x.weighs(0), 15);
        x.lick(0);
        x.lick(1);
        x.lick(4);
        x.lick(5);
        Check.due("weighs(0): LICKED PLACES, too", x.weighs(0), 15);
        PeelReadings y = Check.slice("n1 p0010 t0010 l0010 c0010 h0010 i0010");
        Check.due("weighs(0) of each KIND", y.weighs(0), 11);
    }

    private static void weighsByOnePlace() {
        PeelReadings x = Check.slice("n4 c0641 t0340");
        int[] want = {1, 2, 2, 2, 0, 0, 2, 3};
        for (int line = 0; line < 8; line++) {
            Check.due("weighs(" + line + ") by one PLACE", x.weighs(line), want[line]);
        }
    }
}
