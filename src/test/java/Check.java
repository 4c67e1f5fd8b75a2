/** What all tests of the project share: counting wrong answers, making slices by texts. */
final class Check {
    static final int NOTHING = 1, BEYOND = 2, UNLIKE = 3, NOUGHT = 4, SIZE = 5;

    private static int right = 0;
    private static int wrong = 0;

    private Check() {
    }

    static void due(String call, long got, long want) {
        if (got == want) {
            right++;
            return;
        }
        wrong++;
        System.out.println(call + " answered " + got + ", due is " + want);
    }

    /** An answer of 1, and what it told by asked(). */
    static void told(String call, PeelReadings x, long got, long want) {
        due(call, got, 1);
        due(call + ", asked()", x.asked(), want);
    }

    /** An answer, and what it told by asked(). */
    static void both(String call, PeelReadings x, long got, long want, long asked) {
        due(call, got, want);
        due(call + ", asked()", x.asked(), asked);
    }

    /** A chance that was told: the answer, the upper and the lower number. */
    static void chance(String call, PeelReadings x, long got, long upper, long lower) {
        due(call, got, 1);
        due(call + ", upper()", x.upper(), upper);
        due(call + ", lower()", x.lower(), lower);
    }

    /** The answer FINDING, and which it was. */
    static void finds(String call, PeelReadings x, long got, int finding) {
        due(call, got, PeelReadings.FINDING);
        due(call + ", finding()", x.finding(), finding);
    }

    static void bad(String call, long got) {
        due(call, got, PeelReadings.BAD);
    }

    static void write(PeelReadings x, int t, String signs) {
        x.text(t, signs.length());
        for (int i = 0; i < signs.length(); i++) {
            x.put(t, i, signs.charAt(i));
        }
    }

    /** A new object whose slice is by this text (TEXT 0). */
    static PeelReadings slice(String signs) {
        PeelReadings x = new PeelReadings();
        write(x, 0, signs);
        if (x.slice(0) < 1) {
            due("slice by '" + signs + "'", x.slice(0), 1);
        }
        return x;
    }

    static void row(PeelReadings x, int r, int... items) {
        x.row(r, items.length);
        for (int i = 0; i < items.length; i++) {
            x.lay(r, i, items[i]);
        }
    }

    static void rowIs(String call, PeelReadings x, int r, int... items) {
        for (int i = 0; i < items.length; i++) {
            told(call + ": at(" + r + ", " + i + ")", x, x.at(r, i), items[i]);
        }
        finds(call + ": at(" + r + ", " + items.length + ")", x, x.at(r, items.length), BEYOND);
    }

    /** A set by its members. */
    static int set(int... members) {
        int bits = 0;
        for (int member : members) {
            bits |= 1 << member;
        }
        return bits;
    }

    static void end() {
        System.out.println(right + " answers as due, " + wrong + " not");
        if (wrong != 0) {
            System.exit(1);
        }
    }
}
