/** Promises 8 to 11: text, put, fault, slice. */
final class TextsTest {
    public static void main(String[] args) {
        text();
        put();
        fault();
        slice();
        Check.end();
    }

    private static void text() {
        PeelReadings x = new PeelReadings();
        Check.due("text(0, 2)", x.text(0, 2), 2);
        Check.due("put(0, 0, 65)", x.put(0, 0, 65), 1032);
        Check.due("text(0, 1) anew", x.text(0, 1), 1);
        Check.due("put(0, 0, 65) anew", x.put(0, 0, 65), 1032);
        Check.due("text(3, 60)", x.text(3, 60), 60);
        Check.due("put(3, 59, 1)", x.put(3, 59, 1), 1032);
        Check.due("text(1, 0)", x.text(1, 0), 0);
        Check.due("count(12)", x.count(12), 3);
        Check.bad("text(4, 1)", x.text(4, 1));
        Check.bad("text(-1, 1)", x.text(-1, 1));
        Check.bad("text(0, 61)", x.text(0, 61));
        Check.bad("text(4, -1)", x.text(4, -1));
        Check.finds("text(0, -1)", x, x.text(0, -1), Check.SIZE);
    }

    private static void put() {
        PeelReadings x = new PeelReadings();
        Check.finds("put(0, 0, 1)", x, x.put(0, 0, 1), Check.NOTHING);
        x.text(0, 2);
        Check.due("put(0, 1, 300)", x.put(0, 1, 300), 1032);
        Check.due("put(0, 1, 200)", x.put(0, 1, 200), 1044);
        Check.due("put(0, 1, -129)", x.put(0, 1, -129), 944);
        Check.due("put(0, 1, 128)", x.put(0, 1, 128), 1127);
        Check.due("put(0, 1, 0)", x.put(0, 1, 0), 872);
        Check.finds("put(0, 2, 1)", x, x.put(0, 2, 1), Check.BEYOND);
        Check.finds("put(0, -1, 1)", x, x.put(0, -1, 1), Check.BEYOND);
        Check.bad("put(4, 0, 1)", x.put(4, 0, 1));
        Check.bad("put(-1, 0, 1)", x.put(-1, 0, 1));
        Check.due("asked() is left alone by put", x.asked(), 0);
    }

    private static void fault() {
        int none = PeelReadings.NONE;
        faultIs("n1p0010", none);
        faultIs("  n4   p0010   i1541   ", none);
        faultIs("n1p0010t0111l0220c0331h0440i1541", none);
        faultIs("", 0);
        faultIs("    ", 4);
        faultIs("n", 1);
        faultIs("n2", 2);
        faultIs("n2  ", 4);
        faultIs("m2p0010", 0);
        faultIs("  N2p0010", 2);
        faultIs("n0p0010", 1);
        faultIs("n5p0010", 1);
        faultIs("n p0010", 1);
        faultIs("n12p0010", 2);
        faultIs("n1x0010", 2);
        faultIs("n1 n", 3);
        faultIs("n1p", 3);
        faultIs("n1p 010", 3);
        faultIs("n1p0", 4);
        faultIs("n1p0 ", 4);
        faultIs("n1p00", 5);
        faultIs("n1p001", 6);
        faultIs("n1p1510", none);
        faultIs("n1p1610", 3);
        faultIs("n1p9910", 3);
        faultIs("n1p9x10", 4);
        faultIs("n1p9", 4);
        faultIs("n1p16", 3);
        faultIs("n1p0000", 5);
        faultIs("n1p0050", 5);
        faultIs("n1p0040", none);
        faultIs("n1p001x", 6);
        faultIs("n1p0012", 6);
        faultIs("n1p00101", 7);
        faultIs("n1p0010t0111l0220c0331h0440i1541p0010", 32);
        faultIs("n1p0010t0111l0220c0331h0440i1541 x", 33);
        faultIs("n1p0010" + (char) 0x70 + (char) 0xb0, 8);
        PeelReadings x = new PeelReadings();
        Check.finds("fault(0)", x, x.fault(0), Check.NOTHING);
        Check.bad("fault(4)", x.fault(4));
        Check.bad("fault(-1)", x.fault(-1));
    }

    private static void faultIs(String signs, int place) {
        PeelReadings x = new PeelReadings();
        Check.write(x, 2, signs);
        Check.due("fault of '" + signs + "'", x.fault(2), place);
        Check.due("fault leaves no slice", x.count(0), 0);
        if (place != PeelReadings.NONE) {
            Check.due("slice of '" + signs + "'", x.slice(2), PeelReadings.STATE);
            Check.due("slice of '" + signs + "', count(0)", x.count(0), 0);
        }
    }

    private static void slice() {
        PeelReadings x = new PeelReadings();
        Check.finds("slice(0)", x, x.slice(0), Check.NOTHING);
        Check.bad("slice(4)", x.slice(4));
        Check.bad("slice(-1)", x.slice(-1));
        Check.write(x, 1, " n3 c0721 i1540");
        Check.due("slice(1)", x.slice(1), 2);
        Check.due("count(1)", x.count(1), 3);
        int[] want = {3, 7, 2, 1};
        for (int what = 0; what < 4; what++) {
            Check.told("peel(0, " + what + ")", x, x.peel(0, what), want[what]);
        }
        x.morning();
        x.lift(0);
        x.lick(3);
        x.keep(1);
        Check.write(x, 0, "n1x");
        long before = x.digest();
        Check.due("slice of a fault", x.slice(0), PeelReadings.STATE);
        Check.due("slice of a fault changes nothing", x.digest(), before);
        Check.due("slice anew", x.slice(1), 2);
        int[] counts = {2, 3, 0, 0, 0, 0, 0};
        for (int what = 0; what < counts.length; what++) {
            Check.due("slice anew: count(" + what + ")", x.count(what), counts[what]);
        }
        Check.due("slice anew: kept ones go", x.count(13), 0);
        Check.finds("slice anew: on(1)", x, x.on(1), Check.NOTHING);
        x.put(1, 1, 'x');
        Check.told("a slice is no more its text", x, x.peel(0, 1), 7);
    }
}
