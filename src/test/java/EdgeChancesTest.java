/** The ends of promises 36 to 38: turns 0 to 2, chances by 0 to 12 of 12, in lowest terms. */
final class EdgeChancesTest {
    public static void main(String[] args) {
        duelOfNoTurns();
        duelBedmakerBegins();
        duelOneTurnEach();
        duelTwoTurnsEach();
        duelAllLifted();
        duelNoneAndAllLines();
        duelFallsThen();
        duelSetDownFallsToo();
        duelIsAside();
        duelAgainstTrueDeeds();
        oddsBy0And12();
        oddsOfEachP();
        oddsInLowestTerms();
        oddsOfFour();
        oddsButLifted();
        oddsLicked();
        midOfNoneAndAll();
        midOfSix();
        midInLowestTerms();
        midIsTheSumOfOdds();
        Check.end();
    }

    // ---- duel

    /** "n (0 .. 2) times each": none, so it is a MORNING alone. */
    private static void duelOfNoTurns() {
        PeelReadings x = Check.slice("n1 i0010 i0510 i1010");
        x.lift(2);
        // from 0 to 1, from 5 to 10
        Check.told("duel(0)", x, x.duel(0), 4);
        x.lift(0);
        x.lift(1);
        Check.told("duel(0), all LIFTED", x, x.duel(0), 0);
    }

    /** Were the don to begin, he could not set down again what is LIFTED then. */
    private static void duelBedmakerBegins() {
        PeelReadings x = Check.slice("n1 i0010");
        Check.told("one PEEL, duel(1)", x, x.duel(1), 2);
        Check.told("one PEEL, duel(2)", x, x.duel(2), 2);
        x.lift(0);
        Check.told("one PEEL, LIFTED, duel(0)", x, x.duel(0), 0);
        Check.told("one PEEL, LIFTED, duel(1)", x, x.duel(1), 2);
        Check.told("one PEEL, LIFTED, duel(2)", x, x.duel(2), 2);
    }

    /** A PEEL of four PLACES falls to a row of its own, a PIP to its corner: the bedmaker takes the one that counts. */
    private static void duelOneTurnEach() {
        PeelReadings x = Check.slice("n1 p0440 i0010");
        // from 4 to 24 = 8: row 2 and all columns; from 0 to 1: row 0, column 1
        Check.told("both", x, x.duel(0), 6);
        Check.told("what is LIFTED is set down", x, x.duel(1), 6);
        x.lift(1);
        // PEEL 0 is LIFTED, then it is set down rather than the PIP
        Check.told("without the PIP", x, x.duel(0), 5);
        Check.told("without the PIP, duel(1)", x, x.duel(1), 5);
        x.lift(1);
        x.lift(0);
        // the PIP is LIFTED, then the PEEL is set down; or none is LIFTED, then both are READ
        Check.told("without the PEEL", x, x.duel(0), 2);
        Check.told("without the PEEL, duel(1)", x, x.duel(1), 5);
    }

    private static void duelTwoTurnsEach() {
        PeelReadings x = Check.slice("n1 i0010 i0510 i1010 i1510");
        x.lift(0);
        x.lift(1);
        // to 51 = 3, 76 = 12; with those of 0, 5 to 1, 10
        Check.told("two of four", x, x.duel(0), 4);
        Check.told("two of four, duel(1)", x, x.duel(1), 4);
        Check.told("two of four, duel(2)", x, x.duel(2), 4);
        x.lift(2);
        x.lift(3);
        // each PIP that is set down is LIFTED again, but for the last
        Check.told("none of four, duel(1)", x, x.duel(1), 2);
        Check.told("none of four, duel(2)", x, x.duel(2), 2);
    }

    private static void duelAllLifted() {
        PeelReadings x = Check.slice("n2 i0010 i0010 i0010 i0010 i0010 i0010");
        for (int i = 0; i < 6; i++) {
            x.lift(i);
        }
        for (int n = 0; n <= 2; n++) {
            Check.told("no LINE by one PLACE, duel(" + n + ")", x, x.duel(n), 0);
        }
    }

    private static void duelNoneAndAllLines() {
        PeelReadings none = Check.slice("n4 i0010");
        PeelReadings all = Check.slice("n1 p0040 p0040 p0040 p0041 p0041 p0041");
        // from 0 to 4: across a row, down a column from there
        for (int n = 0; n <= 2; n++) {
            Check.told("none can be READ, duel(" + n + ")", none, none.duel(n), 0);
            Check.told("rows 1 to 3, all columns, duel(" + n + ")", all, all.duel(n), 7);
        }
        // from 12 to 64 = 0
        PeelReadings eight = Check.slice("n1 p1240 p1241");
        Check.told("all LINES", eight, eight.duel(0), 8);
    }

    /** "then it is a MORNING": its number, and how it lies then */
    private static void duelFallsThen() {
        PeelReadings x = Check.slice("n2 p0420");
        x.morning();
        x.morning();
        // MORNING 2: from 1 to 9, DOWN, as in EdgeDeedsTest
        Check.told("MORNING 2", x, x.duel(0), 1);
        x.lick(13);
        Check.told("MORNING 2, LICKED", x, x.duel(0), 0);
    }

    /** What the don sets down is not LIFTED when it is MORNING, so it falls as all others do. */
    private static void duelSetDownFallsToo() {
        // from 1, where it would make line 0 READ, to 7, where it COVERS one PLACE alone
        PeelReadings fewer = Check.slice("n2 p0120");
        fewer.lift(0);
        Check.told("set down, it falls to 7", fewer, fewer.duel(1), 0);
        // from 7 to 37 = 5, where it makes line 1 READ
        PeelReadings more = Check.slice("n2 p0720");
        more.lift(0);
        Check.told("LIFTED", more, more.duel(0), 0);
        Check.told("set down, it falls to 5", more, more.duel(1), 1);
        Check.told("set down, LIFTED, set down", more, more.duel(2), 1);
        more.morning();
        more.morning();
        // MORNING 2: from 7 to 39 = 7, DOWN: 7, 11
        Check.told("set down, it lies DOWN then", more, more.duel(1), 1);
    }

    private static void duelIsAside() {
        PeelReadings x = Check.slice("n1 i0010 i0510 i1010");
        x.lift(1);
        long before = x.digest();
        for (int n = 0; n <= 2; n++) {
            x.duel(n);
            Check.due("duel(" + n + ") is aside", x.digest(), before);
        }
        Check.bad("duel(3)", x.duel(3));
        Check.bad("duel(-1)", x.duel(-1));
    }

    /** All games by true DEEDS. */
    private static void duelAgainstTrueDeeds() {
        String signs = "n2 p0020 l0510 t0331";
        for (int lifted = 0; lifted < 8; lifted++) {
            PeelReadings x = Check.slice(signs);
            for (int i = 0; i < 3; i++) {
                if ((lifted >> i & 1) == 1) {
                    x.lift(i);
                }
            }
            for (int n = 0; n <= 2; n++) {
                Check.told("LIFTED " + lifted + ", duel(" + n + ")", x, x.duel(n), play(signs, lifted, 2 * n));
            }
        }
    }

    private static int play(String signs, int lifted, int turns) {
        if (turns == 0) {
            PeelReadings x = Check.slice(signs);
            for (int i = 0; i < 3; i++) {
                if ((lifted >> i & 1) == 1) {
                    x.lift(i);
                }
            }
            return Integer.bitCount(x.morning());
        }
        boolean isDon = turns % 2 == 1;
        int best = play(signs, lifted, turns - 1);
        for (int i = 0; i < 3; i++) {
            boolean canMove = (lifted >> i & 1) == (isDon ? 1 : 0);
            int value = canMove ? play(signs, lifted ^ 1 << i, turns - 1) : best;
            best = isDon ? Math.max(best, value) : Math.min(best, value);
        }
        return best;
    }

    // ---- odds

    private static void oddsBy0And12() {
        PeelReadings x = Check.slice("n1 i0510 l0010");
        int read = x.count(7);
        for (int line = 0; line < 8; line++) {
            Check.chance("odds(" + line + ", 0)", x, x.odds(line, 0), read >> line & 1, 1);
            Check.chance("odds(" + line + ", 12)", x, x.odds(line, 12), 0, 1);
        }
        Check.bad("odds(8, 0)", x.odds(8, 0));
        Check.bad("odds(-1, 0)", x.odds(-1, 0));
        Check.bad("odds(0, 13)", x.odds(0, 13));
        Check.bad("odds(0, -1)", x.odds(0, -1));
    }

    private static void oddsOfEachP() {
        int[][] want = {{1, 1}, {11, 12}, {5, 6}, {3, 4}, {2, 3}, {7, 12}, {1, 2}, {5, 12}, {1, 3}, {1, 4}, {1, 6},
            {1, 12}, {0, 1}};
        for (int p = 0; p <= 12; p++) {
            PeelReadings x = Check.slice("n1 i0510");
            Check.chance("odds(1, " + p + ")", x, x.odds(1, p), want[p][0], want[p][1]);
            Check.chance("odds(0, " + p + ")", x, x.odds(0, p), 0, 1);
        }
    }

    private static void oddsInLowestTerms() {
        PeelReadings x = Check.slice("n1 i0010 i0010");
        Check.chance("1 - 1/4", x, x.odds(0, 6), 3, 4);
        Check.chance("1 - 4/9", x, x.odds(0, 8), 5, 9);
        Check.chance("1 - 1/144", x, x.odds(0, 1), 143, 144);
        Check.chance("1 - 121/144", x, x.odds(0, 11), 23, 144);
    }

    private static void oddsOfFour() {
        PeelReadings x = Check.slice("n4 i0010 i0110 i0210 i0310 i0410 i0510");
        Check.chance("all four by 11", x, x.odds(0, 11), 1, 20736);
        Check.chance("all four by 1", x, x.odds(0, 1), 14641, 20736);
        Check.chance("all four by 6", x, x.odds(0, 6), 1, 16);
        PeelReadings y = Check.slice("n1 i0010 i0110 i0210 i0310 i0010 i0110");
        Check.chance("one of six by 11", y, y.odds(0, 11), 2985984 - 1771561, 2985984);
        Check.chance("one of six by 6", y, y.odds(0, 6), 63, 64);
    }

    /** "each PEEL that is not LIFTED is burnt": a LIFTED one COVERS nothing in any case. */
    private static void oddsButLifted() {
        PeelReadings x = Check.slice("n1 i0010 i0010");
        x.lift(1);
        Check.chance("one of two", x, x.odds(0, 6), 1, 2);
        Check.chance("one of two by 0", x, x.odds(0, 0), 1, 1);
        x.lift(0);
        for (int p = 0; p <= 12; p++) {
            Check.chance("all LIFTED by " + p, x, x.odds(0, p), 0, 1);
            Check.chance("all LIFTED, the mean by " + p, x, x.mid(p), 0, 1);
        }
        Check.due("odds is aside", x.count(5), 3);
    }

    private static void oddsLicked() {
        PeelReadings x = Check.slice("n2 p0040 p0030");
        x.lick(0);
        x.lick(1);
        // 2, 3 by the first; 2 by the second
        Check.chance("LICKED", x, x.odds(0, 3), 3, 4);
        x.lick(2);
        Check.chance("too many LICKED", x, x.odds(0, 3), 0, 1);
    }

    // ---- mid

    private static void midOfNoneAndAll() {
        PeelReadings all = Check.slice("n4 l0010 l0210 l0810 l1010");
        Check.chance("all LINES, none burnt", all, all.mid(0), 8, 1);
        Check.chance("all burnt", all, all.mid(12), 0, 1);
        // each LINE by two that are not burnt
        Check.chance("all LINES by 6", all, all.mid(6), 2, 1);
        Check.chance("all LINES by 11", all, all.mid(11), 1, 18);
        PeelReadings none = Check.slice("n2 i0010");
        for (int p = 0; p <= 12; p++) {
            Check.chance("none READ by " + p, none, none.mid(p), 0, 1);
        }
        Check.bad("mid(13)", all.mid(13));
        Check.bad("mid(-1)", all.mid(-1));
    }

    private static void midOfSix() {
        PeelReadings x = Check.slice("n1 i1510 i1510 i1510 i1510 i1510 i1510");
        Check.chance("six by 1", x, x.mid(1), 2985983, 1492992);
        Check.chance("six by 11", x, x.mid(11), 1214423, 1492992);
        Check.chance("six by 6", x, x.mid(6), 63, 32);
    }

    private static void midInLowestTerms() {
        int[][] want = {{2, 1}, {11, 6}, {5, 3}, {3, 2}, {4, 3}, {7, 6}, {1, 1}, {5, 6}, {2, 3}, {1, 2}, {1, 3}, {1, 6},
            {0, 1}};
        for (int p = 0; p <= 12; p++) {
            PeelReadings x = Check.slice("n1 i1510");
            Check.chance("mid(" + p + ")", x, x.mid(p), want[p][0], want[p][1]);
        }
    }

    private static void midIsTheSumOfOdds() {
        PeelReadings x = Check.slice("n2 p0040 c0531 h0941 l1010 t0230 i1510");
        x.lift(4);
        x.lick(10);
        long whole = 12L * 12 * 12 * 12 * 12;
        for (int p = 0; p <= 12; p++) {
            long sum = 0;
            for (int line = 0; line < 8; line++) {
                x.odds(line, p);
                sum += x.upper() * (whole / x.lower());
            }
            x.mid(p);
            Check.due("mid(" + p + ") by the odds", x.upper() * (whole / x.lower()), sum);
        }
    }
}
