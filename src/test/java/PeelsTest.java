/** Promises 12, 13, 22: peel, mark, covers, with what each kind covers and weighs. */
final class PeelsTest {
    public static void main(String[] args) {
        traits();
        coversOfKinds();
        coversRefused();
        marks();
        marksRefused();
        Check.end();
    }

    private static void traits() {
        PeelReadings x = Check.slice("n2 p0040 t0541 l1510 c1021 h0130 i0311");
        int[][] want = {
            {0, 0, 4, 0, 0, Check.set(0, 1, 2, 3), 1},
            {1, 5, 4, 1, 0, Check.set(5, 13), 1},
            {2, 15, 1, 0, 0, Check.set(15), 3},
            {3, 10, 2, 1, 0, Check.set(10, 14, 11), 2},
            {4, 1, 3, 0, 0, Check.set(1, 3, 9), 1},
            {5, 3, 1, 1, 0, Check.set(3), 3}};
        for (int i = 0; i < want.length; i++) {
            for (int what = 0; what < 7; what++) {
                Check.told("peel(" + i + ", " + what + ")", x, x.peel(i, what), want[i][what]);
            }
        }
        x.lift(0);
        x.lick(0);
        Check.told("peel(0, 4), lifted", x, x.peel(0, 4), 1);
        Check.told("peel(0, 5), lifted, licked", x, x.peel(0, 5), 15);
        Check.told("peel(1, 4)", x, x.peel(1, 4), 0);
        Check.bad("peel(6, 0)", x.peel(6, 0));
        Check.bad("peel(-1, 0)", x.peel(-1, 0));
        Check.bad("peel(0, 7)", x.peel(0, 7));
        Check.bad("peel(0, -1)", x.peel(0, -1));
        Check.bad("peel(1, 0) of one", Check.slice("n1p0010").peel(1, 0));
    }

    private static void coversOfKinds() {
        PeelReadings x = Check.slice("n2 p0030 t0040 l0010 c0040 h0040 i0040");
        coversAre(x, 0, 5, 0, Check.set(5, 6, 7));
        coversAre(x, 0, 5, 1, Check.set(5, 9, 13));
        coversAre(x, 0, 6, 0, Check.set(6, 7));
        coversAre(x, 0, 14, 1, Check.set(14));
        coversAre(x, 0, 15, 0, Check.set(15));
        coversAre(x, 1, 4, 0, Check.set(4, 6));
        coversAre(x, 1, 6, 0, Check.set(6));
        coversAre(x, 1, 1, 1, Check.set(1, 9));
        coversAre(x, 1, 9, 1, Check.set(9));
        coversAre(x, 2, 5, 0, Check.set(5, 6, 9, 10));
        coversAre(x, 2, 7, 1, Check.set(7, 11));
        coversAre(x, 2, 13, 1, Check.set(13, 14));
        coversAre(x, 2, 15, 1, Check.set(15));
        coversAre(x, 3, 4, 0, Check.set(4, 5, 6, 7, 8));
        coversAre(x, 3, 4, 1, Check.set(4, 8, 12, 5));
        coversAre(x, 3, 15, 1, Check.set(15));
        coversAre(x, 4, 0, 0, Check.set(0, 2, 8));
        coversAre(x, 4, 0, 1, Check.set(0, 2, 8));
        coversAre(x, 4, 11, 1, Check.set(11));
        coversAre(x, 5, 0, 1, Check.set(0));
        PeelReadings y = Check.slice("n2 t0020 h0021 c0010 t0010");
        coversAre(y, 0, 0, 0, Check.set(0));
        coversAre(y, 1, 0, 0, Check.set(0));
        coversAre(y, 2, 0, 0, Check.set(0, 4));
        coversAre(y, 2, 0, 1, Check.set(0, 1));
        coversAre(y, 3, 3, 1, Check.set(3));
    }

    private static void coversAre(PeelReadings x, int i, int place, int down, int want) {
        Check.due("covers(" + i + ", " + place + ", " + down + ")", x.covers(i, place, down), want);
    }

    private static void coversRefused() {
        PeelReadings x = Check.slice("n2 p0030");
        Check.bad("covers(1, 0, 0)", x.covers(1, 0, 0));
        Check.bad("covers(-1, 0, 0)", x.covers(-1, 0, 0));
        Check.bad("covers(0, 16, 0)", x.covers(0, 16, 0));
        Check.bad("covers(0, -1, 0)", x.covers(0, -1, 0));
        Check.bad("covers(0, 0, 2)", x.covers(0, 0, 2));
        Check.bad("covers(0, 0, -1)", x.covers(0, 0, -1));
        Check.due("covers: as it lies does not matter", x.covers(0, 0, 1), Check.set(0, 4, 8));
        Check.told("covers is aside", x, x.peel(0, 5), Check.set(0, 1, 2));
    }

    private static void marks() {
        PeelReadings x = Check.slice("n2 t0040 h0040 l0510 i0511 c0510 p0010");
        Check.due("THIN: two that it leaves", x.mark(0, 1), 2);
        Check.due("HAIR as a THIN one", x.mark(1, 1), 2);
        Check.due("HAIR: one more than a THIN one", x.mark(1, 4), 1);
        Check.due("LUMP: two that weigh 3", x.mark(2, 2), 2);
        Check.due("PIP as a LUMP", x.mark(3, 2), 2);
        Check.due("PIP: three fewer", x.mark(3, 5), 3);
        Check.due("CURL: one more", x.mark(4, 3), 1);
        x.lift(3);
        Check.due("LUMP: LIFTED ones weigh too", x.mark(2, 2), 2);
        PeelReadings y = Check.slice("n2 i1511 i0710 i1310 c1510");
        Check.due("PIP in the corner", y.mark(0, 5), 0);
        Check.due("PIP by the right", y.mark(1, 5), 1);
        Check.due("PIP by the foot", y.mark(2, 5), 1);
        Check.due("three PIPS", y.mark(0, 2), 3);
        Check.due("CURL in the corner", y.mark(3, 3), 0);
    }

    private static void marksRefused() {
        PeelReadings x = Check.slice("n2 p0040 t0040 l0510 c0510 h0040 i0511");
        boolean[][] of = {
            {false, false, false, false, false},
            {true, false, false, false, false},
            {false, true, false, false, false},
            {false, false, true, false, false},
            {true, false, false, true, false},
            {false, true, false, false, true}};
        int unlike = 0;
        for (int i = 0; i < 6; i++) {
            for (int kind = 1; kind <= 5; kind++) {
                boolean isRefused = x.mark(i, kind) == PeelReadings.FINDING;
                Check.due("mark(" + i + ", " + kind + ") is refused", isRefused ? 1 : 0, of[i][kind - 1] ? 0 : 1);
                unlike += isRefused ? 1 : 0;
            }
        }
        Check.due("findings(UNLIKE)", x.findings(Check.UNLIKE), unlike);
        Check.due("finding()", x.finding(), Check.UNLIKE);
        Check.bad("mark(0, 0)", x.mark(0, 0));
        Check.bad("mark(1, 6)", x.mark(1, 6));
        Check.bad("mark(1, -1)", x.mark(1, -1));
        Check.bad("mark(6, 1)", x.mark(6, 1));
        Check.bad("mark(-1, 1)", x.mark(-1, 1));
    }
}
