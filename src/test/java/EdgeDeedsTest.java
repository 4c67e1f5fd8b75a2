/** The ends of promises 14 to 21 and 39: MORNINGS that wrap around, 40 DEEDS, 8 LICKED PLACES, undoing, keeping, LOTS. */
final class EdgeDeedsTest {
    private static final int FULL = PeelReadings.FULL, STATE = PeelReadings.STATE;
    private static final long LOTS_MODULUS = 2147483647L;

    public static void main(String[] args) {
        fallModulo16();
        fortyMorningsFromEverywhere();
        otherWayIf3Leaves2();
        whatIsReadAsItLiesThen();
        liftedOnesDoNotFall();
        tallyOfAllLines();
        tallyOfOtherDeeds();
        tallyOfNone();
        shiftBetweenTheEnds();
        shiftToWhereItIs();
        turnAndBack();
        liftAllAndBack();
        lickUpToEight();
        lickedAreLickedStill();
        fortyOfEachDeed();
        refusedDeedsAreNone();
        undoEachOfForty();
        undoThenOthers();
        keepInEachPlace();
        keptIsKept();
        onBringsAllBack();
        onFromFullToEmpty();
        lotsByHand();
        lastSeed();
        lotsOfTwenty();
        lotShiftsToWhereItIs();
        lotLicksANinth();
        lotOfTheLastPeel();
        Check.end();
    }

    private static int trait(PeelReadings x, int i, int what) {
        x.peel(i, what);
        return x.asked();
    }

    private static String item(char letter, int place, int length, int down) {
        return "" + letter + place / 10 + place % 10 + length + down;
    }

    // ---- a MORNING

    /** "5 times its PLACE, its LENGTH and the MORNING's number together, modulo 16" */
    private static void fallModulo16() {
        int[][] falls = {{0, 1, 1}, {3, 1, 0}, {2, 4, 14}, {3, 4, 3}, {12, 4, 0}, {14, 1, 7}, {15, 4, 15}, {15, 1, 12}};
        for (int[] fall : falls) {
            PeelReadings x = Check.slice("n1 " + item('i', fall[0], fall[1], 0));
            x.morning();
            Check.due("from " + fall[0] + " by " + fall[1], trait(x, 0, 1), fall[2]);
        }
    }

    private static void fortyMorningsFromEverywhere() {
        for (int k = 0; k < 128; k++) {
            int place = k / 8;
            int length = 1 + k / 2 % 4;
            int down = k % 2;
            PeelReadings x = Check.slice("n1 " + item('i', place, length, down));
            for (int morning = 0; morning < 40; morning++) {
                Check.due("the next MORNING's number", x.count(2), morning);
                place = (5 * place + length + morning) % 16;
                down = morning % 3 == 2 ? 1 - down : down;
                Check.due("MORNING " + morning, x.morning(), 1 << place / 4 | 1 << 4 + place % 4);
                Check.due("MORNING " + morning + ": its PLACE", trait(x, 0, 1), place);
                Check.due("MORNING " + morning + ": DOWN", trait(x, 0, 3), down);
                Check.due("MORNING " + morning + ": the TALLY", x.count(4), 2 * (morning + 1));
            }
            Check.due("a MORNING more", x.morning(), FULL);
            Check.due("the next MORNING's number, full", x.count(2), 40);
        }
    }

    /** "if the MORNING's number by 3 leaves 2, it lies the other way then" */
    private static void otherWayIf3Leaves2() {
        int[] downs = {0, 0, 1, 1, 1, 0, 0, 0, 1, 1, 1, 0};
        PeelReadings x = Check.slice("n1 p0010 p0011");
        for (int morning = 0; morning < downs.length; morning++) {
            x.morning();
            Check.due("ACROSS, behind MORNING " + morning, trait(x, 0, 3), downs[morning]);
            Check.due("DOWN, behind MORNING " + morning, trait(x, 1, 3), 1 - downs[morning]);
        }
    }

    /** By its LENGTH of 2 it falls from 4 to 6 (22), to 1 (33), to 9; there it lies DOWN and COVERS 9, 13. */
    private static void whatIsReadAsItLiesThen() {
        PeelReadings x = Check.slice("n2 p0420");
        Check.due("MORNING 0 of three", x.morning(), Check.set(1));
        Check.due("MORNING 1 of three", x.morning(), Check.set(0));
        Check.due("MORNING 2 of three", x.morning(), Check.set(5));
        Check.due("MORNING 2 of three: its PLACE", trait(x, 0, 1), 9);
        Check.due("three MORNINGS: the TALLY", x.count(4), 3);
    }

    private static void liftedOnesDoNotFall() {
        PeelReadings x = Check.slice("n1 p0020 p0721");
        x.lift(1);
        for (int k = 0; k < 3; k++) {
            x.morning();
        }
        Check.due("LIFTED: its PLACE", trait(x, 1, 1), 7);
        Check.due("LIFTED: DOWN", trait(x, 1, 3), 1);
        x.lift(1);
        x.morning();
        // 5 * 7 + 2 + 3 = 40
        Check.due("set down: its PLACE", trait(x, 1, 1), 8);
        Check.due("set down: DOWN", trait(x, 1, 3), 1);
    }

    private static void tallyOfAllLines() {
        PeelReadings x = Check.slice("n1 p0040 p0440 p0840 p1240 p0041 p0141");
        int tally = 0;
        for (int k = 0; k < 40; k++) {
            tally += Integer.bitCount(x.morning());
            Check.due("the TALLY behind " + (k + 1), x.count(4), tally);
        }
    }

    private static void tallyOfOtherDeeds() {
        PeelReadings x = Check.slice("n1 i0010");
        x.shift(0, 3);
        x.turn(0);
        x.lick(9);
        x.lift(0);
        x.lift(0);
        Check.due("no MORNING, no TALLY", x.count(4), 0);
        Check.due("no MORNING, MORNING 0 is next", x.count(2), 0);
    }

    private static void tallyOfNone() {
        PeelReadings x = Check.slice("n1 p0040 l0510");
        x.lift(0);
        x.lift(1);
        Check.due("a MORNING of LIFTED ones", x.morning(), 0);
        Check.due("a MORNING of LIFTED ones: the TALLY", x.count(4), 0);
        Check.due("a MORNING of LIFTED ones: the next", x.count(2), 1);
        Check.due("a MORNING of LIFTED ones: DEEDS", x.count(3), 3);
    }

    // ---- the other DEEDS

    private static void shiftBetweenTheEnds() {
        PeelReadings x = Check.slice("n1 p0041 i0010");
        Check.due("shift(0, 15)", x.shift(0, 15), 0);
        Check.due("shift(0, 0)", x.shift(0, 0), 15);
        for (int place = 1; place < 16; place++) {
            Check.due("shift(0, " + place + ")", x.shift(0, place), place - 1);
            Check.due("shift(0, " + place + "): there", trait(x, 0, 1), place);
        }
        Check.due("shift: it lies as it lay", trait(x, 0, 3), 1);
        Check.due("shift: the other stays", trait(x, 1, 1), 0);
        Check.due("shift onto another", x.shift(0, 0), 15);
        Check.due("shift: DEEDS", x.count(3), 18);
    }

    /** "STATE: it is there" */
    private static void shiftToWhereItIs() {
        for (int place = 0; place < 16; place++) {
            PeelReadings x = Check.slice("n1 " + item('t', place, 2, 0) + item('i', 15 - place, 1, 0));
            Check.due("shift(0, " + place + ") there", x.shift(0, place), STATE);
            Check.due("shift(0, " + place + ") there: no DEED", x.count(3), 0);
            x.lift(0);
            Check.due("shift of a LIFTED one there", x.shift(0, place), STATE);
            Check.due("shift of a LIFTED one", x.shift(0, 15 - place), place);
            Check.due("shift of a LIFTED one: LIFTED still", x.count(5), 1);
        }
    }

    private static void turnAndBack() {
        PeelReadings x = Check.slice("n1 p0040 p0031");
        x.lift(0);
        Check.due("turn of a LIFTED one", x.turn(0), 1);
        Check.due("turn of a LIFTED one: LIFTED still", x.count(5), 1);
        Check.due("turn(0) again", x.turn(0), 0);
        Check.due("turn(1)", x.turn(1), 0);
        Check.due("turn(1) again", x.turn(1), 1);
        Check.due("turn: its PLACE stays", trait(x, 1, 1), 0);
        Check.due("turn: DEEDS", x.count(3), 5);
    }

    private static void liftAllAndBack() {
        PeelReadings x = Check.slice("n1 p0010 p0110 p0210 p0310 p0410 p0510");
        for (int i = 0; i < 6; i++) {
            Check.due("lift(" + i + ")", x.lift(i), 1);
            Check.due("lift(" + i + "): LIFTED", x.count(5), (2 << i) - 1);
        }
        Check.due("all LIFTED: COVERED", x.covered(), 0);
        for (int i = 0; i < 6; i++) {
            Check.due("lift(" + i + ") back", x.lift(i), 0);
        }
        Check.due("none LIFTED", x.count(5), 0);
        Check.due("none LIFTED: COVERED", x.covered(), 63);
    }

    /** "STATE: .. 8 are LICKED (and it is not)" */
    private static void lickUpToEight() {
        for (int from = 0; from <= 8; from += 8) {
            PeelReadings x = Check.slice("n1 p0010");
            for (int k = 0; k < 8; k++) {
                Check.due("lick(" + (from + k) + ")", x.lick(from + k), 1);
            }
            Check.due("8 LICKED", x.count(6), 255 << from);
            for (int k = 0; k < 8; k++) {
                Check.due("a ninth", x.lick(8 - from + k), STATE);
            }
            Check.due("8 LICKED still", x.count(6), 255 << from);
            Check.due("8 LICKED: DEEDS", x.count(3), 8);
            for (int k = 0; k < 8; k++) {
                Check.due("lick(" + (from + k) + ") back", x.lick(from + k), 0);
                Check.due("another instead", x.lick(8 - from + k), 1);
            }
            Check.due("8 others LICKED", x.count(6), 255 << 8 - from);
        }
    }

    private static void lickedAreLickedStill() {
        PeelReadings x = Check.slice("n1 i0010");
        x.lick(1);
        // from 0 to 1 by LENGTH 1
        Check.due("a MORNING onto a LICKED PLACE", x.morning(), 0);
        Check.due("LICKED still", x.count(6), 2);
        Check.due("not any more", x.lick(1), 0);
        Check.due("COVERED then", x.covered(), 2);
    }

    // ---- 40 DEEDS

    private static int deed(PeelReadings x, int which, int k) {
        switch (which) {
            case 0: return x.morning();
            case 1: return x.shift(0, k % 2 + 1);
            case 2: return x.turn(0);
            case 3: return x.lift(0);
            case 4: return x.lick(k % 5);
            default: return x.lots(1, k + 1);
        }
    }

    private static void fortyOfEachDeed() {
        for (int which = 0; which < 6; which++) {
            PeelReadings x = Check.slice("n1 p0010 i0010");
            for (int k = 0; k < 40; k++) {
                Check.due("DEEDS " + which, x.count(3), k);
                int got = deed(x, which, k);
                Check.due("DEED " + which + " answered " + got + ": not refused", got >= 0 ? 1 : 0, 1);
            }
            Check.due("40 DEEDS " + which, x.count(3), 40);
            for (int other = 0; other < 6; other++) {
                Check.due("40 DEEDS " + which + ", DEED " + other, deed(x, other, other == 1 ? trait(x, 0, 1) % 2 : 3), FULL);
            }
            Check.due("40 DEEDS " + which + " still", x.count(3), 40);
            x.undo(39);
            Check.due("one is undone, DEED " + which, deed(x, 2, 0) >= 0 ? 1 : 0, 1);
            Check.due("one is undone, one more is none", x.morning(), FULL);
        }
    }

    private static void refusedDeedsAreNone() {
        PeelReadings x = Check.slice("n1 p0510 i0010");
        x.shift(0, 5);
        x.shift(2, 5);
        x.turn(2);
        x.lift(-1);
        x.lick(16);
        x.lots(21, 1);
        Check.due("refused: no DEEDS", x.count(3), 0);
    }

    // ---- undo

    private static void someDeed(PeelReadings x, int k) {
        switch (k % 6) {
            case 0: x.lift(k % 3); break;
            case 1: x.lick(k / 6 * 2); break;
            case 2: x.shift(k % 3, (trait(x, k % 3, 1) + 5) % 16); break;
            case 3: x.turn(k % 2); break;
            case 4: x.lots(1, k); break;
            default: x.morning();
        }
    }

    private static PeelReadings withDeeds(int deeds) {
        PeelReadings x = Check.slice("n2 p0120 c0711 i0310");
        for (int k = 0; k < deeds; k++) {
            someDeed(x, k);
        }
        Check.due("DEEDS so far", x.count(3), deeds);
        return x;
    }

    /** "DEEDS from number n on are undone: how many." All at once, and one by one. */
    private static void undoEachOfForty() {
        PeelReadings oneByOne = withDeeds(40);
        for (int n = 40; n >= 0; n--) {
            long want = withDeeds(n).digest();
            PeelReadings x = withDeeds(40);
            Check.due("undo(" + n + ") of 40", x.undo(n), 40 - n);
            Check.due("undo(" + n + ") of 40: as it was", x.digest(), want);
            Check.due("undo(" + n + ") once more", x.undo(n), 0);
            Check.due("undo(" + n + ") once more: as it was", x.digest(), want);
            Check.bad("undo(" + (n + 1) + ") then", x.undo(n + 1));
            Check.due("undo(" + n + ") of one more", oneByOne.undo(n), n == 40 ? 0 : 1);
            Check.due("undo(" + n + ") of one more: as it was", oneByOne.digest(), want);
        }
    }

    private static void undoThenOthers() {
        PeelReadings x = Check.slice("n2 p0120 c0711 i0310");
        x.morning();
        x.lift(0);
        x.lick(3);
        Check.due("undo(1)", x.undo(1), 2);
        x.turn(1);
        Check.due("others take their numbers", x.count(3), 2);
        Check.due("undo(2): none", x.undo(2), 0);
        Check.due("undo(1) of these", x.undo(1), 1);
        PeelReadings y = Check.slice("n2 p0120 c0711 i0310");
        y.morning();
        Check.due("as behind the first", x.digest(), y.digest());
        Check.due("asked() is left by undo", x.asked(), 0);
    }

    // ---- keep, on

    private static void keepInEachPlace() {
        PeelReadings x = Check.slice("n1 p0120 i0310");
        for (int k = 0; k < 3; k++) {
            Check.due("keep(" + k + ")", x.keep(k), k);
            Check.due("kept so far", x.count(13), k + 1);
            x.turn(0);
        }
        for (int k = 2; k >= 0; k--) {
            Check.due("on(" + k + ")", x.on(k), k);
            Check.due("on(" + k + "): DEEDS", x.count(3), k);
            Check.due("on(" + k + "): DOWN", trait(x, 0, 3), k % 2);
            Check.due("on leaves what is kept", x.count(13), 3);
        }
        Check.bad("keep(3)", x.keep(3));
        Check.bad("keep(-1)", x.keep(-1));
        Check.due("kept still", x.count(13), 3);
    }

    private static void keptIsKept() {
        PeelReadings x = Check.slice("n1 p0120 i0310");
        x.lick(3);
        x.keep(0);
        x.undo(0);
        x.shift(0, 9);
        x.shift(1, 9);
        Check.due("on(0) behind undo and others", x.on(0), 1);
        Check.due("on(0): LICKED", x.count(6), 8);
        Check.due("on(0): its PLACE", trait(x, 0, 1), 1);
        x.morning();
        Check.due("keep(0) over it", x.keep(0), 2);
        x.undo(0);
        Check.due("on(0) of the later one", x.on(0), 2);
        Check.due("on(0): the next MORNING", x.count(2), 1);
    }

    /** "The SLICE is as it was kept": each thing that DEEDS change. */
    private static void onBringsAllBack() {
        PeelReadings x = Check.slice("n1 p0120 i0310");
        x.morning();
        x.morning();
        x.morning();
        x.lift(1);
        x.lick(0);
        x.keep(2);
        int[] want = new int[11];
        for (int what = 0; what < want.length; what++) {
            want[what] = x.count(what);
        }
        Check.due("the TALLY is some", want[4] > 0 ? 1 : 0, 1);
        x.undo(0);
        x.turn(0);
        x.on(2);
        for (int what = 0; what < want.length; what++) {
            Check.due("on(2): count(" + what + ")", x.count(what), want[what]);
        }
        Check.due("its DEEDS are undone", x.undo(3), 2);
        Check.due("its DEEDS are undone: LIFTED", x.count(5), 0);
        Check.due("its DEEDS are undone: LICKED", x.count(6), 0);
        Check.due("its DEEDS are undone: the next MORNING", x.count(2), 3);
    }

    private static void onFromFullToEmpty() {
        PeelReadings x = Check.slice("n1 p0120 i0310");
        Check.due("keep(0) without DEEDS", x.keep(0), 0);
        for (int k = 0; k < 40; k++) {
            x.morning();
        }
        Check.due("keep(1) of 40", x.keep(1), 40);
        long full = x.digest();
        Check.due("on(0)", x.on(0), 0);
        Check.due("on(0): there is room again", x.turn(0), 1);
        Check.due("on(1)", x.on(1), 40);
        Check.due("on(1): as it was", x.digest(), full);
        Check.due("on(1): full again", x.turn(0), FULL);
        Check.due("on(1) when it is so already", x.on(1), 40);
        Check.due("undo(0)", x.undo(0), 40);
    }

    // ---- lots

    /**
     * From 1 come 48271, 182605794, 1291394886, 1914720637, 2078669041: a MORNING, a shift to 15, a MORNING, PLACE 5 is
     * LICKED, a PEEL is LIFTED.
     */
    private static void lotsByHand() {
        PeelReadings x = Check.slice("n1 i0010");
        Check.due("lots(1, 1)", x.lots(1, 1), 2);
        Check.due("lots(1, 1): its PLACE", trait(x, 0, 1), 1);
        x.undo(0);
        Check.due("lots(2, 1)", x.lots(2, 1), 2);
        Check.due("lots(2, 1): its PLACE", trait(x, 0, 1), 15);
        x.undo(0);
        Check.due("lots(5, 1)", x.lots(5, 1), 4);
        // 5 * 15 + 1 + 1 = 77
        Check.due("lots(5, 1): its PLACE", trait(x, 0, 1), 13);
        int[] want = {1, 1, 2, 5, 4, 1, 32, 0, 0};
        for (int what = 0; what < want.length; what++) {
            Check.due("lots(5, 1): count(" + what + ")", x.count(what), want[what]);
        }
        Check.due("lots: DEEDS that are undone one by one", x.undo(4), 1);
        Check.due("the last is undone: LIFTED", x.count(5), 0);
        Check.due("the last is undone: LICKED", x.count(6), 32);
    }

    /** From 2147483646 comes 2147435376: a PEEL is LIFTED. */
    private static void lastSeed() {
        PeelReadings x = Check.slice("n1 i0010 i0010 i0010 i0010 i0010");
        Check.due("lots(1, 2147483646)", x.lots(1, 2147483646), 0);
        Check.due("lots(1, 2147483646): LIFTED", x.count(5), Check.set(1));
        Check.bad("lots(1, 2147483647)", x.lots(1, 2147483647));
        Check.bad("lots(1, 0)", x.lots(1, 0));
        Check.due("lots refused: DEEDS", x.count(3), 1);
    }

    private static void lotsOfTwenty() {
        PeelReadings x = Check.slice("n1 p0120 c0711 i0310");
        PeelReadings y = Check.slice("n1 p0120 c0711 i0310");
        long lot = 12345;
        for (int k = 0; k < 20; k++) {
            y.lots(1, (int) lot);
            lot = lot * 48271 % LOTS_MODULUS;
        }
        Check.due("lots(20, 12345)", x.lots(20, 12345), y.count(4));
        Check.due("lots(20, 12345): as one by one", x.digest(), y.digest());
        Check.due("20 DEEDS", x.count(3), 20);
        Check.due("20 more", x.lots(20, 1) >= 0 ? 1 : 0, 1);
        Check.due("40 DEEDS", x.count(3), 40);
        Check.due("one more", x.lots(1, 1), FULL);
        Check.due("asked() is left by lots", x.asked(), 0);
    }

    /** A seed whose first number does this to that PEEL, at that PLACE. */
    private static int seedFor(int what, int place, int i, int peels) {
        for (int seed = 1; seed < 1000000; seed++) {
            long lot = seed * 48271L % LOTS_MODULUS;
            if (lot / 8 % 8 == what && lot / 64 % 16 == place && lot % peels == i) {
                return seed;
            }
        }
        throw new IllegalStateException("no such seed");
    }

    /** "a DEED in any case" */
    private static void lotShiftsToWhereItIs() {
        PeelReadings x = Check.slice("n1 p0720 i0310");
        Check.due("a shift to where it is", x.lots(1, seedFor(4, 7, 0, 2)), 0);
        Check.due("a shift to where it is: a DEED", x.count(3), 1);
        Check.due("a shift to where it is: there", trait(x, 0, 1), 7);
        x.lots(1, seedFor(4, 0, 1, 2));
        Check.due("a shift to 0", trait(x, 1, 1), 0);
        x.lots(1, seedFor(4, 15, 1, 2));
        Check.due("a shift to 15", trait(x, 1, 1), 15);
        Check.due("three DEEDS", x.undo(0), 3);
    }

    /** "is LICKED (if fewer than 8 are), or not any more (a DEED in any case)" */
    private static void lotLicksANinth() {
        PeelReadings x = Check.slice("n1 p0720 i0310");
        for (int place = 0; place < 7; place++) {
            x.lots(1, seedFor(7, place, place % 2, 2));
        }
        Check.due("7 by LOTS", x.count(6), 127);
        x.lots(1, seedFor(7, 15, 0, 2));
        Check.due("an eighth", x.count(6), 127 | 1 << 15);
        x.lots(1, seedFor(7, 8, 0, 2));
        Check.due("not a ninth", x.count(6), 127 | 1 << 15);
        Check.due("not a ninth: a DEED", x.count(3), 9);
        x.lots(1, seedFor(7, 0, 0, 2));
        Check.due("not any more", x.count(6), 126 | 1 << 15);
        x.lots(1, seedFor(7, 8, 1, 2));
        Check.due("an eighth again", x.count(6), 126 | 1 << 8 | 1 << 15);
        Check.due("undo to the ninth", x.undo(9), 2);
        Check.due("undo to the ninth: LICKED", x.count(6), 127 | 1 << 15);
        Check.due("undo all", x.undo(0), 9);
        Check.due("undo all: LICKED", x.count(6), 0);
    }

    private static void lotOfTheLastPeel() {
        for (int peels = 1; peels <= 6; peels++) {
            PeelReadings x = Check.slice("n1 " + "i0010".repeat(peels));
            x.lots(1, seedFor(6, 3, peels - 1, peels));
            Check.due("LIFTED, of " + peels, x.count(5), 1 << peels - 1);
            x.lots(1, seedFor(6, 3, peels - 1, peels));
            Check.due("set down, of " + peels, x.count(5), 0);
            x.lots(1, seedFor(5, 3, peels - 1, peels));
            Check.due("TURNED, of " + peels, trait(x, peels - 1, 3), 1);
            for (int what = 0; what < 4; what++) {
                x.lots(1, seedFor(what, 3, peels - 1, peels));
                Check.due("a MORNING by " + what, x.count(2), what + 1);
            }
        }
    }
}
