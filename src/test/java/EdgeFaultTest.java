import java.util.Arrays;

/** The ends of promises 10 and 11: the small language of a SLICE, sign by sign, and where its FAULT is. */
final class EdgeFaultTest {
    private static final int NONE = PeelReadings.NONE;
    private static final String LETTERS = "ptlchi";

    public static void main(String[] args) {
        blanksAlone();
        everyByteOfAnItem();
        bothFiguresAreNone();
        everyByteAhead();
        everyByteBehind();
        everyEndThatComesEarly();
        blanksAsManyAsWanted();
        noneWithinItems();
        needsFrom1To4();
        placesFrom00To15();
        lengthsFrom1To4();
        downIs0Or1();
        onePeelToSix();
        aSeventhPeel();
        aSecondNumberOfPlaces();
        fullText();
        theFirstFaultOfTwo();
        faultIsAside();
        sliceAnew();
        sliceAnewBehindWhatIsAside();
        fewerPeelsAnew();
        sliceLeavesTheRest();
        Check.end();
    }

    private static int faultOf(String signs) {
        PeelReadings x = new PeelReadings();
        Check.write(x, 1, signs);
        return x.fault(1);
    }

    /** The FAULT, and that there is a SLICE just if there is none. */
    private static void faultIs(String signs, int want) {
        PeelReadings x = new PeelReadings();
        Check.write(x, 1, signs);
        Check.due("fault of '" + signs + "'", x.fault(1), want);
        int got = x.slice(1);
        Check.due("'" + signs + "' is a SLICE", got == PeelReadings.STATE ? 0 : 1, want == NONE ? 1 : 0);
        Check.due("'" + signs + "': PEELS", x.count(0), Math.max(0, got));
    }

    private static String blanks(int n) {
        return " ".repeat(n);
    }

    private static String peels(int n) {
        return "p0010".repeat(n);
    }

    /** "the TEXT's size, if .. there are blanks alone" */
    private static void blanksAlone() {
        for (int n = 0; n <= 60; n++) {
            faultIs(blanks(n), n);
        }
    }

    /** "a letter, a figure that is none such: its place" */
    private static void everyByteOfAnItem() {
        String[] such = {"n ", "1234", LETTERS, "01", "0123456789", "1234", "01"};
        String right = "n1p0010";
        for (int k = 0; k < right.length(); k++) {
            for (int v = 0; v < 256; v++) {
                String signs = right.substring(0, k) + (char) v + right.substring(k + 1);
                boolean isSuch = such[k].indexOf(v) >= 0 || k == 2 && v == ' ' || k == 3 && v >= '0' && v <= '9';
                int want = isSuch ? NONE : k;
                // a blank ahead of a figure is a blank between, and then the figure is no letter
                want = k == 0 && v == ' ' ? 1 : k == 2 && v == ' ' ? 3 : want;
                // 20 and more: the place of the first of both
                want = k == 3 && v >= '2' && v <= '9' ? 3 : want;
                Check.due("byte " + v + " at " + k, faultOf(signs), want);
            }
        }
    }

    /** The second of two figures is looked at just if the first is one. */
    private static void bothFiguresAreNone() {
        for (int v = 0; v < 256; v++) {
            boolean isFigure = v >= '0' && v <= '9';
            Check.due("byte " + v + " ahead of x", faultOf("n1p" + (char) v + "x10"), isFigure ? 4 : 3);
            Check.due("byte " + v + " ahead of the end", faultOf("n1p" + (char) v), isFigure ? 4 : 3);
        }
    }

    private static void everyByteAhead() {
        for (int v = 0; v < 256; v++) {
            Check.due("byte " + v + " ahead", faultOf((char) v + "n1p0010"), v == ' ' ? NONE : v == 'n' ? 1 : 0);
            Check.due("byte " + v + " alone", faultOf("" + (char) v), v == ' ' || v == 'n' ? 1 : 0);
        }
    }

    private static void everyByteBehind() {
        for (int v = 0; v < 256; v++) {
            int want = v == ' ' ? NONE : LETTERS.indexOf(v) >= 0 ? 8 : 7;
            Check.due("byte " + v + " behind", faultOf("n1p0010" + (char) v), want);
        }
    }

    /** "the TEXT's size, if its end comes too early" */
    private static void everyEndThatComesEarly() {
        String right = "  n2 p0030  t0441l1020  ";
        for (int n = 0; n <= right.length(); n++) {
            boolean isWhole = n >= 10 && n <= 12 || n == 17 || n >= 22;
            Check.due("the first " + n, faultOf(right.substring(0, n)), isWhole ? NONE : n);
        }
    }

    /** "blanks (32) ahead, between, behind as many as wanted" */
    private static void blanksAsManyAsWanted() {
        for (int n = 0; n <= 53; n++) {
            faultIs(blanks(n) + "n1p0010", NONE);
            faultIs("n1" + blanks(n) + "p0010", NONE);
            faultIs("n1p0010" + blanks(n), NONE);
        }
        faultIs("n1p0010" + blanks(48) + "p0010", NONE);
        faultIs("n1p0010" + (char) 9 + "p0010", 7);
        faultIs((char) 160 + "n1p0010", 0);
    }

    /** "none within items" */
    private static void noneWithinItems() {
        faultIs("n 1p0010", 1);
        faultIs("n1p 0010", 3);
        faultIs("n1p0 010", 4);
        faultIs("n1p00 10", 5);
        faultIs("n1p001 0", 6);
        faultIs("n1p2 010", 4);
    }

    private static void needsFrom1To4() {
        for (int need = 0; need <= 9; need++) {
            faultIs("n" + need + "p0010", need >= 1 && need <= 4 ? NONE : 1);
        }
        for (int need = 1; need <= 4; need++) {
            Check.due("count(1) by n" + need, Check.slice("n" + need + "p0010").count(1), need);
        }
        faultIs("n10p0010", 2);
        faultIs("n", 1);
        faultIs("nn1p0010", 1);
    }

    /** "two figures, 00 .. 15"; "two figures above 15: the place of the first of both" */
    private static void placesFrom00To15() {
        for (int place = 0; place <= 99; place++) {
            String figures = "" + place / 10 + place % 10;
            faultIs("n1 h" + figures + "10", place <= 15 ? NONE : 4);
            if (place <= 15) {
                PeelReadings x = Check.slice("n1 h" + figures + "10");
                Check.told("its PLACE", x, x.peel(0, 1), place);
            }
        }
        faultIs("n1 h16", 4);
        faultIs("n1 h15", 6);
        faultIs("n1 h9", 5);
        faultIs("n1 h9x10", 5);
        faultIs("n1 h1610 x", 4);
        faultIs("n1 p0010 h1610", 10);
        faultIs("n1 h510", 4);
        faultIs("n1 h110", 6);
    }

    private static void lengthsFrom1To4() {
        for (int length = 0; length <= 9; length++) {
            faultIs("n1c07" + length + "0", length >= 1 && length <= 4 ? NONE : 5);
        }
        for (int length = 1; length <= 4; length++) {
            PeelReadings x = Check.slice("n1c07" + length + "0");
            Check.told("its LENGTH", x, x.peel(0, 2), length);
        }
    }

    private static void downIs0Or1() {
        for (int down = 0; down <= 9; down++) {
            faultIs("n1c071" + down, down <= 1 ? NONE : 6);
        }
        for (int down = 0; down <= 1; down++) {
            PeelReadings x = Check.slice("n1c071" + down);
            Check.told("whether it lies DOWN", x, x.peel(0, 3), down);
        }
    }

    /** "PEELS (1 to 6; 0, 1, .. as they come)" */
    private static void onePeelToSix() {
        faultIs("n1", 2);
        faultIs("n1 ", 3);
        for (int n = 1; n <= 6; n++) {
            StringBuilder signs = new StringBuilder("n1");
            for (int i = 0; i < n; i++) {
                signs.append(LETTERS.charAt(i)).append("0").append(i).append("10");
            }
            PeelReadings x = new PeelReadings();
            Check.write(x, 0, signs.toString());
            Check.due("slice of " + n, x.slice(0), n);
            Check.due("PEELS", x.count(0), n);
            for (int i = 0; i < n; i++) {
                Check.told("KIND of " + i, x, x.peel(i, 0), i);
                Check.told("PLACE of " + i, x, x.peel(i, 1), i);
            }
            Check.bad("one more", x.peel(n, 0));
        }
    }

    /** "a seventh PEEL: its place" */
    private static void aSeventhPeel() {
        faultIs("n1" + peels(6), NONE);
        faultIs("n1" + peels(6) + "   ", NONE);
        faultIs("n1" + peels(7), 32);
        faultIs("n1" + peels(6) + "p", 32);
        faultIs("n1" + peels(6) + "   " + peels(1), 35);
        faultIs("n1" + peels(6) + "   p16", 35);
        faultIs("n1" + peels(6) + "1", 32);
    }

    private static void aSecondNumberOfPlaces() {
        faultIs("n1n1p0010", 2);
        faultIs("n1p0010n1", 7);
        faultIs("p0010", 0);
        faultIs("p0010n1", 0);
    }

    private static void fullText() {
        String sixty = blanks(10) + "n1" + blanks(18) + peels(6);
        Check.due("a TEXT of 60", sixty.length(), 60);
        faultIs(sixty, NONE);
        faultIs(blanks(58) + "n1", 60);
        faultIs(blanks(59) + "n", 60);
        faultIs(blanks(59) + "p", 59);
        faultIs(blanks(53) + "n1p0010", NONE);
        faultIs(blanks(53) + "n1p0012", 59);
    }

    private static void theFirstFaultOfTwo() {
        faultIs("n5x", 1);
        faultIs("n1p1650", 3);
        faultIs("n1p0052", 5);
        faultIs("n1p0012x", 6);
        faultIs("x n5", 0);
        faultIs("n1p0010 x" + peels(6), 8);
    }

    private static void faultIsAside() {
        PeelReadings x = Check.slice("n2 p0030 l0910");
        x.morning();
        x.keep(0);
        Check.write(x, 1, "n3 t0110");
        long before = x.digest();
        Check.due("fault of another TEXT", x.fault(1), NONE);
        Check.due("it changes nothing", x.digest(), before);
        Check.due("NONE is no FINDING", x.finding(), 0);
        x.put(1, 0, 'x');
        before = x.digest();
        Check.due("a FAULT of another TEXT", x.fault(1), 0);
        Check.due("that changes nothing", x.digest(), before);
        Check.due("a FAULT is no FINDING", x.finding(), 0);
    }

    /** "anew: MORNING 0, nothing LIFTED, LICKED, TALLY 0, no DEEDS; kept SLICES go" */
    private static void sliceAnew() {
        PeelReadings x = Check.slice("n1 p0030 l0910");
        for (int k = 0; k < 3; k++) {
            x.morning();
            x.keep(k);
        }
        x.lift(1);
        x.lick(15);
        Check.due("slice(0) anew", x.slice(0), 2);
        int[] want = {2, 1, 0, 0, 0, 0, 0};
        for (int what = 0; what < want.length; what++) {
            Check.due("slice(0) anew: count(" + what + ")", x.count(what), want[what]);
        }
        Check.due("slice(0) anew: kept", x.count(13), 0);
        for (int k = 0; k < 3; k++) {
            Check.finds("slice(0) anew: on(" + k + ")", x, x.on(k), Check.NOTHING);
        }
        Check.due("slice(0) anew: no DEEDS to be undone", x.undo(0), 0);
        Check.told("slice(0) anew: its PLACE", x, x.peel(0, 1), 0);
        Check.due("slice(0) anew: as new", x.digest(), Check.slice("n1 p0030 l0910").digest());
    }

    /** What was asked aside ahead of it, with MORNINGS, LIFTED and LICKED ones, is not in a SLICE anew. */
    private static void sliceAnewBehindWhatIsAside() {
        String[] calls = {"reads", "first", "places", "kinds", "next", "duel", "odds", "mid", "best", "gap", "found"};
        int[][] arguments = {{3}, {0}, {1, 0}, {1, 0}, {1, 0}, {2}, {0, 5}, {5}, {0}, {0}, {3, 1}};
        for (int k = 0; k < calls.length; k++) {
            PeelReadings x = Check.slice("n1 p0030 l0910");
            x.row(0, 1);
            x.lay(0, 0, x.reads(1));
            x.row(1, 0);
            x.lift(0);
            x.lick(15);
            x.morning();
            Twins.ask(x, calls[k], arguments[k]);
            Check.due("slice(0) behind " + calls[k], x.slice(0), 2);
            int[] want = {2, 1, 0, 0, 0, 0, 0};
            for (int what = 0; what < want.length; what++) {
                Check.due("slice(0) behind " + calls[k] + ": count(" + what + ")", x.count(what), want[what]);
            }
            Check.told("slice(0) behind " + calls[k] + ": its PLACE", x, x.peel(0, 1), 0);
            Check.told("slice(0) behind " + calls[k] + ": KIND", x, x.peel(1, 0), 2);
        }
    }

    /** PEELS that there are no more: no call answers by them. */
    private static void fewerPeelsAnew() {
        String[] calls = {"peel", "mark", "covers", "covered", "weighs", "reads", "first", "found", "best", "gap", "sure",
            "places", "kinds", "next", "sets", "surely", "duel", "odds", "mid", "count"};
        for (String signs : new String[] {"n4 i1541", "n2 l0010 t0530", "n1 c0730 h1141 p0020 i1010 l0310"}) {
            for (String call : calls) {
                fewerAlike(signs, call);
            }
            PeelReadings fewer = fewer(signs);
            PeelReadings fresh = fresh(signs);
            for (int k = 0; k < 6; k++) {
                Check.due(signs + ": morning()", fewer.morning(), fresh.morning());
                Check.due(signs + ": lots(6, 9)", fewer.lots(6, 9), fresh.lots(6, 9));
                Check.due(signs + ": digest()", fewer.digest(), fresh.digest());
            }
        }
    }

    private static PeelReadings fresh(String signs) {
        PeelReadings x = Check.slice(signs);
        x.row(0, 1);
        return x;
    }

    /** Behind a SLICE of six, two of them LIFTED. */
    private static PeelReadings fewer(String signs) {
        PeelReadings x = Check.slice("n1 l0030 l0221 l0840 l1031 i0520 l1510");
        x.lift(5);
        x.lift(0);
        x.duel(1);
        x.places(5, 0);
        Check.write(x, 0, signs);
        x.slice(0);
        x.row(0, 1);
        return x;
    }

    /** Arguments of a call, the k-th of many. */
    private static int[] argumentsFor(String call, int k) {
        switch (call) {
            case "covered": return new int[0];
            case "gap": return new int[] {5 * k};
            case "sure": return new int[] {5 * k};
            case "found": return new int[] {5 * k, 0};
            case "covers": return new int[] {k / 8, k % 16, k % 2};
            case "peel": return new int[] {k / 8, k % 8};
            case "mark": return new int[] {k / 8, k % 8};
            case "odds": return new int[] {k % 8, 1 + k / 8};
            case "places": return new int[] {k % 8, 0};
            case "kinds": return new int[] {k % 8, 0};
            case "next": return new int[] {k % 8, 0};
            default: return new int[] {k};
        }
    }

    private static void fewerAlike(String signs, String call) {
        PeelReadings fewer = fewer(signs);
        PeelReadings fresh = fresh(signs);
        fresh.odds(0, 0);
        fewer.odds(0, 0);
        fresh.reads(0);
        fewer.reads(0);
        for (int k = 0; k < 48; k++) {
            int[] arguments = argumentsFor(call, k);
            String name = signs + ": " + call + Arrays.toString(arguments);
            Check.due(name, Twins.ask(fewer, call, arguments), Twins.ask(fresh, call, arguments));
            Check.due(name + ", asked()", fewer.asked(), fresh.asked());
            Check.due(name + ", upper()", fewer.upper(), fresh.upper());
            Check.due(name + ", lower()", fewer.lower(), fresh.lower());
            Check.due(name + ", digest()", fewer.digest(), fresh.digest());
        }
    }

    /** What is told, ROWS, TEXTS, FINDINGS are none of what is anew. */
    private static void sliceLeavesTheRest() {
        PeelReadings x = Check.slice("n1 p0030 l0910");
        Check.row(x, 2, 7, 8);
        x.mean(3);
        x.odds(0, 3);
        x.at(2, 1);
        x.slice(0);
        Check.due("asked()", x.asked(), 8);
        Check.due("upper()", x.upper(), 3);
        Check.due("lower()", x.lower(), 4);
        Check.due("finding()", x.finding(), Check.NOTHING);
        Check.due("findings(1)", x.findings(1), 1);
        Check.rowIs("a ROW", x, 2, 7, 8);
        Check.due("a TEXT", x.put(0, 0, 'x'), 1000 + 'n');
        Check.due("the SLICE stays as the TEXT goes", x.count(0), 2);
        Check.due("undo behind that", x.undo(0), 0);
        Check.told("a PEEL behind that", x, x.peel(1, 0), 2);
    }
}
