/** Promises 29, 30, 34, 35: gap, sure, sets, surely. */
final class GapTest {
    private static final int NONE = PeelReadings.NONE, STATE = PeelReadings.STATE;

    public static void main(String[] args) {
        withoutPeels();
        gap();
        sure();
        sets();
        surely();
        Check.end();
    }

    private static void withoutPeels() {
        PeelReadings x = new PeelReadings();
        Check.due("gap(0) without PEELS", x.gap(0), STATE);
        Check.due("sure(0) without PEELS", x.sure(0), STATE);
        Check.due("sets(0) without PEELS", x.sets(0), STATE);
        Check.due("surely(0) without PEELS", x.surely(0), STATE);
        Check.bad("gap(256) without PEELS", x.gap(256));
        Check.bad("sure(-1) without PEELS", x.sure(-1));
        Check.bad("sets(25) without PEELS", x.sets(25));
        Check.bad("surely(-1) without PEELS", x.surely(-1));
    }

    private static void gap() {
        PeelReadings x = Check.slice("n2 p0020");
        Check.chance("gap(0) without LICKED ones", x, x.gap(Check.set(0)), 1, 1);
        Check.due("gap(0) without LICKED ones: the empty set", x.asked(), 0);
        x.lick(1);
        x.lick(2);
        x.lick(6);
        // place 0 is covered: line 0 by 1 or 2 besides, line 6 by both 2 and 6
        Check.chance("gap(none)", x, x.gap(0), 2, 1);
        Check.due("gap(none): least", x.asked(), 0);
        Check.chance("gap(0)", x, x.gap(Check.set(0)), 4, 1);
        Check.due("gap(0): least", x.asked(), Check.set(1));
        Check.chance("gap(0, 6)", x, x.gap(Check.set(0, 6)), 2, 1);
        Check.due("gap(0, 6): least", x.asked(), Check.set(2, 6));
        Check.chance("gap(6)", x, x.gap(Check.set(6)), 0, 1);
        Check.due("gap(6): NONE", x.asked(), NONE);
        Check.due("gap is aside", x.count(6), Check.set(1, 2, 6));
        Check.bad("gap(256)", x.gap(256));
        Check.bad("gap(-1)", x.gap(-1));
        PeelReadings y = Check.slice("n4 i0010");
        for (int place = 0; place < 16; place += 2) {
            y.lick(place);
        }
        // of 256 sets those that have all of column 0 (16), or of column 2 (16; both: 1), make a line READ
        Check.chance("gap of eight", y, y.gap(0), 225, 1);
        Check.chance("gap of eight: column 0", y, y.gap(Check.set(4)), 15, 1);
        Check.due("gap of eight: column 0, least", y.asked(), Check.set(0, 4, 8, 12));
        Check.chance("gap of eight: all eight", y, y.gap(Check.set(4, 6)), 1, 1);
        Check.due("gap of eight: all eight, least", y.asked(), Check.set(0, 2, 4, 6, 8, 10, 12, 14));
    }

    private static void sure() {
        PeelReadings x = Check.slice("n2 p0020");
        x.lick(1);
        x.lick(2);
        x.lick(6);
        Check.both("sure(0, 6)", x, x.sure(Check.set(0, 6)), Check.set(2, 6), 0);
        Check.both("sure(none)", x, x.sure(0), 0, Check.set(1, 2));
        Check.both("sure(0)", x, x.sure(Check.set(0)), 0, 0);
        Check.finds("sure(6)", x, x.sure(Check.set(6)), Check.NOUGHT);
        Check.bad("sure(256)", x.sure(256));
        Check.due("asked() is left", x.asked(), 0);
    }

    private static void sets() {
        PeelReadings x = Check.slice("n2 p0020 t0010 l0030 i0040");
        x.lift(0);
        Check.chance("sets(0)", x, x.sets(0), 1, 1);
        Check.due("sets(0): first", x.asked(), 0);
        Check.chance("sets(3)", x, x.sets(3), 2, 1);
        Check.due("sets(3): first", x.asked(), Check.set(0, 1));
        Check.chance("sets(5)", x, x.sets(5), 2, 1);
        Check.due("sets(5): first", x.asked(), Check.set(0, 2));
        Check.chance("sets(10)", x, x.sets(10), 1, 1);
        Check.chance("sets(24)", x, x.sets(24), 0, 1);
        Check.due("sets(24): NONE", x.asked(), NONE);
        Check.bad("sets(25)", x.sets(25));
        Check.bad("sets(-1)", x.sets(-1));
        PeelReadings y = Check.slice("n1 p0010 p0010 p0010 p0010 p0010 p0010");
        Check.chance("sets(3) of six alike", y, y.sets(3), 20, 1);
        Check.due("sets(3) of six alike: first", y.asked(), 7);
    }

    private static void surely() {
        PeelReadings x = Check.slice("n2 p0020 t0010 l0030 i0040");
        Check.both("surely(0)", x, x.surely(0), 0, 15);
        Check.both("surely(3)", x, x.surely(3), 0, Check.set(3));
        // 7: 4 + 3, 4 + 2 + 1
        Check.both("surely(7)", x, x.surely(7), Check.set(3), 0);
        Check.both("surely(9)", x, x.surely(9), Check.set(0, 2, 3), Check.set(1));
        Check.finds("surely(11)", x, x.surely(11), Check.NOUGHT);
        Check.bad("surely(25)", x.surely(25));
        Check.bad("surely(-1)", x.surely(-1));
        Check.due("asked() is left", x.asked(), Check.set(1));
    }
}
