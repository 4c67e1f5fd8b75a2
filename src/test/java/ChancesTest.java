/** Promises 36 to 39: duel, odds, mid, lots. */
final class ChancesTest {
    private static final int STATE = PeelReadings.STATE;

    public static void main(String[] args) {
        withoutPeels();
        duel();
        odds();
        mid();
        lots();
        lotsOfAllDeeds();
        lotsRefused();
        Check.end();
    }

    private static void withoutPeels() {
        PeelReadings x = new PeelReadings();
        Check.due("duel(0) without PEELS", x.duel(0), STATE);
        Check.due("odds(0, 0) without PEELS", x.odds(0, 0), STATE);
        Check.due("mid(0) without PEELS", x.mid(0), STATE);
        Check.due("lots(1, 1) without PEELS", x.lots(1, 1), STATE);
        Check.bad("duel(3) without PEELS", x.duel(3));
        Check.bad("odds(8, 0) without PEELS", x.odds(8, 0));
        Check.bad("mid(13) without PEELS", x.mid(13));
        Check.bad("lots(0, 1) without PEELS", x.lots(0, 1));
    }

    private static void duel() {
        PeelReadings x = Check.slice("n1 i0010 i0510 i1010");
        // they fall to 1, 26 = 10, 51 = 3: rows 0, 2, columns 1, 2, 3
        Check.told("duel(0)", x, x.duel(0), 5);
        // whatever is lifted, the don sets it down
        Check.told("duel(1)", x, x.duel(1), 5);
        Check.told("duel(2)", x, x.duel(2), 5);
        x.lift(0);
        // now 10, 3: lines 0, 2, 6, 7
        Check.told("duel(0), LIFTED", x, x.duel(0), 4);
        // without 10 the don sets it down: 4; without 3 he may set down 0, or it: 4
        Check.told("duel(1), LIFTED", x, x.duel(1), 4);
        x.lift(1);
        x.lift(2);
        // all are lifted, the bedmaker can't: one is set down, lifted, set down, or two
        Check.told("duel(0), all LIFTED", x, x.duel(0), 0);
        Check.told("duel(1), all LIFTED", x, x.duel(1), 2);
        Check.told("duel(2), all LIFTED", x, x.duel(2), 2);
        Check.due("duel is aside: deeds", x.count(3), 3);
        Check.due("duel is aside: LIFTED", x.count(5), 7);
        Check.bad("duel(3)", x.duel(3));
        Check.bad("duel(-1)", x.duel(-1));
        PeelReadings y = Check.slice("n1 i0010 i0510 i1010");
        y.morning();
        y.morning();
        y.lift(0);
        y.keep(0);
        int best = 9;
        for (int i = 0; i < 3; i++) {
            best = Math.min(best, bestOfDon(y, i));
        }
        Check.told("duel(1) against true deeds", y, y.duel(1), best);
    }

    /** The bedmaker lifts PEEL i (PEEL 0 is lifted: none), the don answers as is best. */
    private static int bestOfDon(PeelReadings x, int i) {
        int most = 0;
        for (int j = -1; j < 3; j++) {
            x.on(0);
            if (i > 0) {
                x.lift(i);
            }
            if (j >= 0 && (x.count(5) >> j & 1) == 1) {
                x.lift(j);
            }
            most = Math.max(most, Integer.bitCount(x.morning()));
        }
        x.on(0);
        return most;
    }

    private static void odds() {
        PeelReadings x = Check.slice("n2 p0020 p0020 i0010");
        // line 0 is READ unless both PEELS are burnt
        Check.chance("odds(0, 3)", x, x.odds(0, 3), 15, 16);
        Check.chance("odds(0, 0)", x, x.odds(0, 0), 1, 1);
        Check.chance("odds(0, 12)", x, x.odds(0, 12), 0, 1);
        Check.chance("odds(4, 3)", x, x.odds(4, 3), 0, 1);
        x.lift(1);
        Check.chance("odds(0, 3), LIFTED", x, x.odds(0, 3), 3, 4);
        x.lick(0);
        Check.chance("odds(0, 3), LICKED", x, x.odds(0, 3), 0, 1);
        Check.bad("odds(8, 3)", x.odds(8, 3));
        Check.bad("odds(-1, 3)", x.odds(-1, 3));
        Check.bad("odds(0, 13)", x.odds(0, 13));
        Check.bad("odds(0, -1)", x.odds(0, -1));
        Check.due("odds is aside", x.count(3), 2);
        PeelReadings y = Check.slice("n1 i0010 i0010 i0010 i0010 i0010 i0010");
        Check.chance("odds of six by 5", y, y.odds(0, 5), 2985984 - 15625, 2985984);
    }

    private static void mid() {
        PeelReadings x = Check.slice("n1 i0010 i0510");
        // two lines by each
        Check.chance("mid(0)", x, x.mid(0), 4, 1);
        Check.chance("mid(4)", x, x.mid(4), 8, 3);
        Check.chance("mid(12)", x, x.mid(12), 0, 1);
        x.lift(1);
        Check.chance("mid(4), LIFTED", x, x.mid(4), 4, 3);
        x.lift(0);
        Check.chance("mid(4), all LIFTED", x, x.mid(4), 0, 1);
        Check.bad("mid(13)", x.mid(13));
        Check.bad("mid(-1)", x.mid(-1));
    }

    private static void lots() {
        PeelReadings x = Check.slice("n1 p0020 c0531 i1010");
        // 48271: by 8 cut is 6033, modulo 8 it is 1: a MORNING
        PeelReadings y = Check.slice("n1 p0020 c0531 i1010");
        y.morning();
        Check.due("lots(1, 1)", x.lots(1, 1), y.count(4));
        Check.due("lots(1, 1): as a morning", x.digest(), y.digest());
        Check.due("lots(1, 1): deeds", x.count(3), 1);
    }

    /** By the document's words, with the class's own calls, for many seeds. */
    private static void lotsOfAllDeeds() {
        for (int seed = 1; seed < 400; seed += 7) {
            PeelReadings x = Check.slice("n1 p0020 c0531 i1010");
            PeelReadings y = Check.slice("n1 p0020 c0531 i1010");
            for (int place = 0; place < 8; place++) {
                x.lick(place);
                y.lick(place);
            }
            long lot = 2147483646L / seed;
            int deeds = 8;
            for (int k = 0; k < 20; k++) {
                lot = lot * 48271 % 2147483647L;
                byHand(y, lot);
                deeds++;
            }
            Check.due("lots(20)", x.lots(20, 2147483646 / seed), y.count(4));
            Check.due("lots(20): deeds", x.count(3), deeds);
            for (int what : new int[] {2, 4, 5, 6, 7, 8}) {
                Check.due("lots(20): count(" + what + ")", x.count(what), y.count(what));
            }
            for (int what = 0; what < 21; what++) {
                x.peel(what / 7, what % 7);
                y.peel(what / 7, what % 7);
                Check.due("lots(20): peel()", x.asked(), y.asked());
            }
            Check.due("lots(20): undo", x.undo(8), 20);
            Check.due("lots(20): undone", x.count(6), 255);
        }
    }

    private static void byHand(PeelReadings y, long lot) {
        int i = (int) (lot % 3);
        int place = (int) (lot / 64 % 16);
        switch ((int) (lot / 8 % 8)) {
            case 4: y.shift(i, place); break;
            case 5: y.turn(i); break;
            case 6: y.lift(i); break;
            case 7: y.lick(place); break;
            default: y.morning();
        }
    }

    private static void lotsRefused() {
        PeelReadings x = Check.slice("n1 p0020 c0531 i1010");
        Check.bad("lots(0, 1)", x.lots(0, 1));
        Check.bad("lots(21, 1)", x.lots(21, 1));
        Check.bad("lots(1, 0)", x.lots(1, 0));
        Check.bad("lots(1, -1)", x.lots(1, -1));
        Check.bad("lots(1, 2147483647)", x.lots(1, 2147483647));
        Check.due("lots(20, 2147483646)", x.lots(20, 2147483646) >= 0 ? 1 : 0, 1);
        Check.due("lots(19, 5)", x.lots(19, 5) >= 0 ? 1 : 0, 1);
        Check.due("lots(2, 5)", x.lots(2, 5), PeelReadings.FULL);
        Check.due("lots(1, 5)", x.lots(1, 5) >= 0 ? 1 : 0, 1);
        Check.due("lots: forty deeds", x.count(3), 40);
        Check.due("lots(1, 5), full", x.lots(1, 5), PeelReadings.FULL);
        Check.bad("lots(0, 5), full", x.lots(0, 5));
    }
}
