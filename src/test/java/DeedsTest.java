/** Promises 14 to 21: morning, shift, turn, lift, lick, undo, keep, on. */
final class DeedsTest {
    private static final int FULL = PeelReadings.FULL, STATE = PeelReadings.STATE;

    public static void main(String[] args) {
        morning();
        shift();
        turn();
        lift();
        lick();
        full();
        fortieth();
        undo();
        keepAndOn();
        Check.end();
    }

    private static void morning() {
        Check.due("morning() without PEELS", new PeelReadings().morning(), STATE);
        PeelReadings x = Check.slice("n2 p0120 p0711");
        x.lift(1);
        // 5 * 1 + 2 + 0 = 7, at the right: it covers one place alone
        Check.due("morning 0", x.morning(), 0);
        Check.told("morning 0: place", x, x.peel(0, 1), 7);
        Check.told("morning 0: LIFTED ones stay", x, x.peel(1, 1), 7);
        // 5 * 7 + 2 + 1 = 38, 38 modulo 16 = 6: places 6, 7 of line 1
        Check.due("morning 1", x.morning(), Check.set(1));
        Check.due("morning 1: tally", x.count(4), 1);
        // 5 * 6 + 2 + 2 = 34, 34 modulo 16 = 2, now it lies down: places 2, 6 of line 6
        Check.due("morning 2", x.morning(), Check.set(6));
        Check.told("morning 2: it lies the other way", x, x.peel(0, 3), 1);
        Check.told("morning 2: LIFTED ones are not turned", x, x.peel(1, 3), 1);
        Check.due("morning 2: tally", x.count(4), 2);
        Check.due("morning 2: next", x.count(2), 3);
        Check.due("morning 2: deeds", x.count(3), 4);
    }

    private static void shift() {
        PeelReadings x = Check.slice("n2 p0120 p0711");
        Check.due("shift(0, 15)", x.shift(0, 15), 1);
        Check.told("shift(0, 15): place", x, x.peel(0, 1), 15);
        Check.due("shift(0, 15) again", x.shift(0, 15), STATE);
        x.lift(1);
        Check.due("shift of a LIFTED one", x.shift(1, 0), 7);
        Check.due("shift: deeds", x.count(3), 3);
        Check.bad("shift(2, 0)", x.shift(2, 0));
        Check.bad("shift(-1, 0)", x.shift(-1, 0));
        Check.bad("shift(0, 16)", x.shift(0, 16));
        Check.bad("shift(0, -1)", x.shift(0, -1));
        Check.bad("shift without PEELS", new PeelReadings().shift(0, 0));
    }

    private static void turn() {
        PeelReadings x = Check.slice("n2 p0120 p0711");
        Check.due("turn(0)", x.turn(0), 1);
        Check.due("turn(1)", x.turn(1), 0);
        Check.told("turn(0): covers", x, x.peel(0, 5), Check.set(1, 5));
        Check.due("turn(0) back", x.turn(0), 0);
        Check.due("turn: deeds", x.count(3), 3);
        Check.bad("turn(2)", x.turn(2));
        Check.bad("turn(-1)", x.turn(-1));
        Check.bad("turn without PEELS", new PeelReadings().turn(0));
    }

    private static void lift() {
        PeelReadings x = Check.slice("n2 p0120 p0711");
        Check.due("lift(1)", x.lift(1), 1);
        Check.due("lift(1): bits", x.count(5), 2);
        Check.due("lift(1): covered", x.covered(), Check.set(1, 2));
        Check.due("lift(1) back", x.lift(1), 0);
        Check.due("lift(1) back: covered", x.covered(), Check.set(1, 2, 7));
        Check.due("lift: deeds", x.count(3), 2);
        Check.bad("lift(2)", x.lift(2));
        Check.bad("lift(-1)", x.lift(-1));
        Check.bad("lift without PEELS", new PeelReadings().lift(0));
    }

    private static void lick() {
        Check.due("lick(0) without PEELS", new PeelReadings().lick(0), STATE);
        Check.bad("lick(16) without PEELS", new PeelReadings().lick(16));
        PeelReadings x = Check.slice("n2 p0120");
        Check.due("lick(1)", x.lick(1), 1);
        Check.due("lick(1): covered", x.covered(), Check.set(2));
        for (int place = 8; place < 15; place++) {
            Check.due("lick(" + place + ")", x.lick(place), 1);
        }
        Check.due("lick(15), a ninth", x.lick(15), STATE);
        Check.due("lick(8) back", x.lick(8), 0);
        Check.due("lick(15), an eighth", x.lick(15), 1);
        Check.due("lick: bits", x.count(6), Check.set(1, 9, 10, 11, 12, 13, 14, 15));
        Check.due("lick: deeds", x.count(3), 10);
        Check.bad("lick(16)", x.lick(16));
        Check.bad("lick(-1)", x.lick(-1));
    }

    private static void full() {
        PeelReadings x = Check.slice("n2 p0120 i0010");
        for (int place = 0; place < 8; place++) {
            x.lick(place);
        }
        for (int k = 8; k < 39; k++) {
            x.turn(0);
        }
        Check.due("the fortieth deed", x.lift(1), 1);
        long before = x.digest();
        Check.due("morning(), full", x.morning(), FULL);
        Check.due("shift(), full", x.shift(0, 5), FULL);
        Check.due("shift() to where it is, full", x.shift(0, 1), STATE);
        Check.due("turn(), full", x.turn(0), FULL);
        Check.due("lift(), full", x.lift(1), FULL);
        Check.due("lick(), full", x.lick(0), FULL);
        Check.due("lick() of a ninth, full", x.lick(9), STATE);
        Check.bad("turn(2), full", x.turn(2));
        Check.due("lots(), full", x.lots(1, 1), FULL);
        Check.due("full: nothing has changed", x.digest(), before);
        Check.due("undo(39)", x.undo(39), 1);
        Check.due("morning() then", x.morning() >= 0 ? 1 : 0, 1);
    }

    /** Each deed is still done as the fortieth, and no more as the next. */
    private static void fortieth() {
        for (int which = 0; which < 6; which++) {
            PeelReadings x = Check.slice("n2 p0120 i0010");
            for (int k = 0; k < 39; k++) {
                x.turn(1);
            }
            int got = deed(x, which);
            Check.due("the fortieth deed " + which + " answered " + got + ": not refused", got >= 0 ? 1 : 0, 1);
            Check.due("the fortieth deed " + which, x.count(3), 40);
            Check.due("the next deed " + which, deed(x, which), FULL);
        }
    }

    private static int deed(PeelReadings x, int which) {
        switch (which) {
            case 0: return x.morning();
            case 1: return x.shift(0, x.count(3) == 39 ? 2 : 3);
            case 2: return x.turn(0);
            case 3: return x.lift(0);
            case 4: return x.lick(0);
            default: return x.lots(1, 5);
        }
    }

    private static void undo() {
        undoNone();
        PeelReadings x = Check.slice("n2 p0120 c0711 i0310");
        long[] digests = new long[9];
        for (int k = 0; k < 9; k++) {
            digests[k] = x.digest();
            someDeed(x, k);
        }
        long all = x.digest();
        Check.due("undo(9): none", x.undo(9), 0);
        Check.bad("undo(10)", x.undo(10));
        Check.bad("undo(-1)", x.undo(-1));
        Check.bad("undo(greatest)", x.undo(Integer.MAX_VALUE));
        Check.bad("undo(least)", x.undo(Integer.MIN_VALUE));
        Check.due("undo of none changes nothing", x.digest(), all);
        for (int k = 8; k >= 1; k -= 2) {
            Check.due("undo(" + k + ")", x.undo(k), k == 8 ? 1 : 2);
            Check.due("undo(" + k + "): as it was", x.digest(), digests[k]);
        }
        Check.due("undo(0)", x.undo(0), 2);
        Check.due("undo(0): as it was", x.digest(), digests[0]);
        Check.due("undo(0) without DEEDS", x.undo(0), 0);
        Check.due("undo(0) without DEEDS: as it was", x.digest(), digests[0]);
        Check.bad("undo(1) without DEEDS", x.undo(1));
    }

    private static void undoNone() {
        PeelReadings x = new PeelReadings();
        long fresh = x.digest();
        Check.due("undo(0) without PEELS", x.undo(0), 0);
        Check.bad("undo(1) without PEELS", x.undo(1));
        Check.bad("undo(-1) without PEELS", x.undo(-1));
        Check.due("undo without PEELS changes nothing", x.digest(), fresh);
        Check.due("undo finds nothing", x.finding(), 0);
        PeelReadings full = Check.slice("n2 p0120");
        for (int k = 0; k < 40; k++) {
            full.turn(0);
        }
        Check.due("undo(40) of 40", full.undo(40), 0);
        Check.due("undo(40): all DEEDS stay", full.count(3), 40);
        Check.bad("undo(41) of 40", full.undo(41));
    }

    private static void someDeed(PeelReadings x, int k) {
        switch (k % 5) {
            case 0: x.morning(); break;
            case 1: x.lift(1); break;
            case 2: x.lick(k); break;
            case 3: x.shift(2, 12 - k); break;
            default: x.turn(0);
        }
    }

    private static void keepAndOn() {
        Check.due("keep(0) without PEELS", new PeelReadings().keep(0), STATE);
        Check.bad("keep(3) without PEELS", new PeelReadings().keep(3));
        PeelReadings x = Check.slice("n2 p0120 c0711 i0310");
        Check.finds("on(0)", x, x.on(0), Check.NOTHING);
        Check.due("keep(0)", x.keep(0), 0);
        for (int k = 0; k < 6; k++) {
            someDeed(x, k);
        }
        Check.due("keep(2)", x.keep(2), 6);
        Check.due("kept", x.count(13), 2);
        long kept = x.digest();
        someDeed(x, 6);
        x.undo(2);
        someDeed(x, 8);
        Check.due("on(2)", x.on(2), 6);
        Check.due("on(2): as it was", x.digest(), kept);
        Check.due("on(2): its DEEDS can be undone", x.undo(1), 5);
        Check.due("on(0)", x.on(0), 0);
        Check.due("on(0): no DEEDS", x.count(3), 0);
        Check.told("on(0): place", x, x.peel(0, 1), 1);
        Check.due("on(2) again", x.on(2), 6);
        Check.due("on(2) again: as it was", x.digest(), kept);
        x.on(0);
        Check.due("keep(2) anew", x.keep(2), 0);
        Check.due("on(2) anew", x.on(2), 0);
        Check.finds("on(1)", x, x.on(1), Check.NOTHING);
        Check.bad("on(3)", x.on(3));
        Check.bad("on(-1)", x.on(-1));
        Check.bad("keep(3)", x.keep(3));
        Check.bad("keep(-1)", x.keep(-1));
    }
}
