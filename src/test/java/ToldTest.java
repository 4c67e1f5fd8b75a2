/** Promises 40 to 46: asked, upper, lower, count, finding, findings, digest; and that refusals change nothing. */
final class ToldTest {
    public static void main(String[] args) {
        before();
        asked();
        upperAndLower();
        count();
        findings();
        digest();
        constants();
        Check.end();
    }

    private static void before() {
        PeelReadings x = new PeelReadings();
        Check.due("asked() before", x.asked(), 0);
        Check.due("upper() before", x.upper(), 0);
        Check.due("lower() before", x.lower(), 1);
        Check.due("finding() before", x.finding(), 0);
        for (int f = 1; f <= 5; f++) {
            Check.due("findings(" + f + ") before", x.findings(f), 0);
        }
    }

    private static void asked() {
        PeelReadings x = Check.slice("n1 i0510 p0030");
        Check.row(x, 0, 77);
        Check.told("at", x, x.at(0, 0), 77);
        // none of these tells by asked(), and what is refused does not
        x.at(0, 1);
        x.at(6, 0);
        x.row(1, 1);
        x.copy(0, 0, 1, 0, 1);
        x.mark(0, 2);
        x.fault(0);
        x.covers(0, 0, 0);
        x.weighs(0);
        x.first(0);
        x.found(1, 2);
        x.places(0, 0);
        x.kinds(0, 0);
        x.next(0, 0);
        x.odds(0, 3);
        x.mid(3);
        x.surely(24);
        x.peel(9, 0);
        x.reads(41);
        x.best(2);
        x.gap(256);
        x.sets(25);
        x.duel(3);
        x.keep(0);
        x.on(0);
        x.turn(0);
        x.undo(0);
        x.count(0);
        x.digest();
        Check.due("asked() is left", x.asked(), 77);
    }

    private static void upperAndLower() {
        PeelReadings x = Check.slice("n1 i0510 p0030");
        Check.chance("odds", x, x.odds(1, 3), 3, 4);
        x.odds(8, 3);
        x.mid(13);
        x.gap(-1);
        x.sets(-1);
        x.sure(0);
        x.surely(1);
        x.reads(3);
        x.duel(1);
        Check.due("upper() is left", x.upper(), 3);
        Check.due("lower() is left", x.lower(), 4);
        Check.chance("gap", x, x.gap(x.count(7)), 1, 1);
        x.odds(1, 3);
        Check.chance("sets", x, x.sets(1), 1, 1);
    }

    private static void count() {
        PeelReadings x = Check.slice("n3 p0040 t0541 l1510 h1021 i0130 l0010");
        x.row(3, 2);
        x.row(4, 0);
        x.text(3, 0);
        x.morning();
        x.lift(5);
        x.lick(9);
        x.keep(0);
        x.keep(2);
        int covered = x.covered();
        int lines = x.asked();
        x.reads(0);
        int tally = x.asked();
        int[] want = {6, 3, 1, 3, tally, Check.set(5), Check.set(9), lines, Integer.bitCount(covered), 2, 3, 2, 2, 2};
        for (int what = 0; what < want.length; what++) {
            Check.due("count(" + what + ")", x.count(what), want[what]);
        }
        Check.bad("count(14)", x.count(14));
        Check.bad("count(-1)", x.count(-1));
    }

    private static void findings() {
        PeelReadings x = new PeelReadings();
        x.row(0, -1);
        x.at(1, 0);
        x.at(2, 0);
        x.row(0, 0);
        x.at(0, 0);
        Check.due("finding()", x.finding(), Check.BEYOND);
        x.mean(0);
        x.at(9, 9);
        Check.due("finding() is left by BAD", x.finding(), Check.NOUGHT);
        int[] want = {2, 1, 0, 1, 1};
        for (int f = 1; f <= 5; f++) {
            Check.due("findings(" + f + ")", x.findings(f), want[f - 1]);
        }
        Check.bad("findings(0)", x.findings(0));
        Check.bad("findings(6)", x.findings(6));
    }

    private static void digest() {
        PeelReadings x = new PeelReadings();
        Check.due("digest of a new one", x.digest(), byHand(x, new int[6][], new int[4][], -1, -1, -1));
        Check.write(x, 1, "n2 p0120 c0711 i0310");
        int[][] texts = new int[4][];
        texts[1] = "n2 p0120 c0711 i0310".chars().toArray();
        x.text(3, 2);
        x.put(3, 0, 200);
        texts[3] = new int[] {200 - 256, 32};
        int[][] rows = new int[6][];
        Check.row(x, 0, -5, 6);
        rows[0] = new int[] {-5, 6};
        x.row(5, 0);
        rows[5] = new int[0];
        x.slice(1);
        x.morning();
        x.lift(1);
        x.keep(1);
        x.lick(3);
        x.keep(2);
        Check.due("digest", x.digest(), byHand(x, rows, texts, -1, 2, 3));
        long before = x.digest();
        x.at(1, 1);
        x.at(7, 1);
        x.odds(1, 1);
        Check.due("digest has no findings, no chances", x.digest(), before);
    }

    private static long byHand(PeelReadings x, int[][] rows, int[][] texts, int... kept) {
        long h = 17;
        for (int what = 0; what <= 13; what++) {
            h = 31 * h + x.count(what);
        }
        for (int i = 0; i < x.count(0); i++) {
            for (int what = 0; what <= 6; what++) {
                x.peel(i, what);
                h = 31 * h + x.asked();
            }
        }
        for (int deeds : kept) {
            h = 31 * h + deeds;
        }
        return all(all(h, rows), texts);
    }

    private static long all(long digest, int[][] rows) {
        long h = digest;
        for (int[] row : rows) {
            h = 31 * h + (row == null ? -1 : row.length);
            for (int k = 0; row != null && k < row.length; k++) {
                h = 31 * h + row[k];
            }
        }
        return h;
    }

    private static void constants() {
        Check.due("BAD", PeelReadings.BAD, -1);
        Check.due("FULL", PeelReadings.FULL, -2);
        Check.due("FINDING", PeelReadings.FINDING, -3);
        Check.due("STATE", PeelReadings.STATE, -4);
        Check.due("SPENT", PeelReadings.SPENT, -6);
        Check.due("NONE", PeelReadings.NONE, -9);
    }
}
