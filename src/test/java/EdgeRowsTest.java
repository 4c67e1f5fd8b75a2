/** The ends of promises 1 to 9: ROWS of 0 to 40 ints, TEXTS of 0 to 60 bytes, missing at first. */
final class EdgeRowsTest {
    private static final int LEAST = Integer.MIN_VALUE, MOST = Integer.MAX_VALUE;

    public static void main(String[] args) {
        missingAtFirst();
        objectsAreApart();
        rowOfEachSize();
        rowsAreApart();
        rowAnew();
        rowRefusedStays();
        firstAndLastPlace();
        emptyRowHasNoPlace();
        intsOfAllSizes();
        tornRow();
        copyOfAll();
        copyOfNone();
        copyToItself();
        copyUpToTheEnd();
        meanCut();
        meanOfTheGreatest();
        textOfEachSize();
        textsAreApart();
        textAnew();
        putCutToAByte();
        firstAndLastByte();
        Check.end();
    }

    /** "or missing (at first)"; "No ROWS, TEXTS, PEELS." */
    private static void missingAtFirst() {
        PeelReadings x = new PeelReadings();
        for (int r = 0; r < 6; r++) {
            Check.finds("at first: tear(" + r + ")", x, x.tear(r), Check.NOTHING);
            Check.finds("at first: mean(" + r + ")", x, x.mean(r), Check.NOTHING);
            Check.finds("at first: lay(" + r + ", 0, 1)", x, x.lay(r, 0, 1), Check.NOTHING);
        }
        for (int t = 0; t < 4; t++) {
            Check.finds("at first: put(" + t + ", 0, 1)", x, x.put(t, 0, 1), Check.NOTHING);
            Check.finds("at first: slice(" + t + ")", x, x.slice(t), Check.NOTHING);
        }
        for (int k = 0; k < 3; k++) {
            Check.finds("at first: on(" + k + ")", x, x.on(k), Check.NOTHING);
        }
        Check.due("at first: PEELS", x.count(0), 0);
        Check.due("at first: ROWS", x.count(11), 0);
        Check.due("at first: TEXTS", x.count(12), 0);
    }

    private static void objectsAreApart() {
        PeelReadings used = Check.slice("n2 p0030 l0910");
        used.row(0, 3);
        used.morning();
        used.keep(0);
        PeelReadings x = new PeelReadings();
        for (int what = 0; what <= 13; what++) {
            Check.due("beside another one: count(" + what + ")", x.count(what), 0);
        }
    }

    /** "A ROW is there with n ints 0: n." */
    private static void rowOfEachSize() {
        for (int n = 0; n <= 40; n++) {
            PeelReadings x = new PeelReadings();
            Check.due("row(" + n % 6 + ", " + n + ")", x.row(n % 6, n), n);
            Check.due("row(" + n % 6 + ", " + n + "): there", x.count(11), 1);
            Check.rowIs("row(" + n % 6 + ", " + n + ")", x, n % 6, new int[n]);
        }
        PeelReadings x = new PeelReadings();
        Check.bad("row(0, 41)", x.row(0, 41));
        Check.finds("row(0, -1)", x, x.row(0, -1), Check.SIZE);
        Check.due("no ROW by these", x.count(11), 0);
    }

    private static void rowsAreApart() {
        PeelReadings x = new PeelReadings();
        for (int r = 0; r < 6; r++) {
            x.row(r, 40);
            Check.due("ROWS that are there", x.count(11), r + 1);
        }
        for (int r = 0; r < 6; r++) {
            x.lay(r, 0, 100 + r);
            x.lay(r, 39, 200 + r);
        }
        for (int r = 0; r < 6; r++) {
            Check.told("at(" + r + ", 0)", x, x.at(r, 0), 100 + r);
            Check.told("at(" + r + ", 1)", x, x.at(r, 1), 0);
            Check.told("at(" + r + ", 38)", x, x.at(r, 38), 0);
            Check.told("at(" + r + ", 39)", x, x.at(r, 39), 200 + r);
        }
    }

    private static void rowAnew() {
        PeelReadings x = new PeelReadings();
        Check.row(x, 2, 7, 8, 9);
        Check.due("a shorter ROW", x.row(2, 1), 1);
        Check.rowIs("a shorter ROW", x, 2, 0);
        Check.due("a longer ROW", x.row(2, 3), 3);
        Check.rowIs("a longer ROW", x, 2, 0, 0, 0);
        x.lay(2, 0, 5);
        Check.due("a ROW of the same size", x.row(2, 3), 3);
        Check.rowIs("a ROW of the same size", x, 2, 0, 0, 0);
        Check.due("still one ROW", x.count(11), 1);
    }

    private static void rowRefusedStays() {
        PeelReadings x = new PeelReadings();
        Check.row(x, 2, 7, 8);
        x.row(2, 41);
        Check.rowIs("behind row(2, 41)", x, 2, 7, 8);
        x.row(2, -1);
        Check.rowIs("behind row(2, -1)", x, 2, 7, 8);
    }

    private static void firstAndLastPlace() {
        PeelReadings x = new PeelReadings();
        x.row(5, 40);
        Check.told("lay(5, 0, 1)", x, x.lay(5, 0, 1), 0);
        Check.told("lay(5, 39, 2)", x, x.lay(5, 39, 2), 0);
        Check.told("lay(5, 0, 3)", x, x.lay(5, 0, 3), 1);
        Check.told("lay(5, 39, 4)", x, x.lay(5, 39, 4), 2);
        Check.finds("lay(5, 40, 5)", x, x.lay(5, 40, 5), Check.BEYOND);
        Check.finds("lay(5, -1, 5)", x, x.lay(5, -1, 5), Check.BEYOND);
        Check.finds("at(5, 40)", x, x.at(5, 40), Check.BEYOND);
        Check.finds("at(5, -1)", x, x.at(5, -1), Check.BEYOND);
        Check.told("at(5, 0)", x, x.at(5, 0), 3);
        Check.told("at(5, 39)", x, x.at(5, 39), 4);
    }

    private static void emptyRowHasNoPlace() {
        PeelReadings x = new PeelReadings();
        x.row(0, 0);
        Check.finds("lay of none", x, x.lay(0, 0, 1), Check.BEYOND);
        Check.finds("at of none", x, x.at(0, 0), Check.BEYOND);
        Check.finds("at of none, -1", x, x.at(0, -1), Check.BEYOND);
        Check.due("tear of none", x.tear(0), 1);
    }

    private static void intsOfAllSizes() {
        PeelReadings x = new PeelReadings();
        x.row(0, 1);
        int before = 0;
        for (int v : new int[] {LEAST, MOST, -1, 0, 1, PeelReadings.NONE, PeelReadings.BAD}) {
            Check.told("lay(0, 0, " + v + ")", x, x.lay(0, 0, v), before);
            Check.told("at(0, 0) is " + v, x, x.at(0, 0), v);
            before = v;
        }
    }

    /** "A ROW is missing: 1." */
    private static void tornRow() {
        PeelReadings x = new PeelReadings();
        Check.row(x, 0, 1, 2);
        Check.row(x, 1, 3, 4);
        Check.row(x, 2, 5, 6);
        Check.due("tear(1)", x.tear(1), 1);
        Check.finds("at(1, 0)", x, x.at(1, 0), Check.NOTHING);
        Check.finds("tear(1) again", x, x.tear(1), Check.NOTHING);
        Check.rowIs("the ROW ahead", x, 0, 1, 2);
        Check.rowIs("the ROW behind", x, 2, 5, 6);
        Check.due("two are there", x.count(11), 2);
        Check.due("row(1, 2) anew", x.row(1, 2), 2);
        Check.rowIs("row(1, 2) anew", x, 1, 0, 0);
    }

    private static void copyOfAll() {
        PeelReadings x = new PeelReadings();
        x.row(0, 40);
        x.row(5, 40);
        int[] all = new int[40];
        for (int i = 0; i < 40; i++) {
            all[i] = LEAST + i;
            x.lay(0, i, all[i]);
        }
        Check.finds("copy of 41", x, x.copy(0, 0, 5, 0, 41), Check.BEYOND);
        Check.finds("copy of 40 from 1 on", x, x.copy(0, 1, 5, 0, 40), Check.BEYOND);
        Check.finds("copy of 40 to 1 on", x, x.copy(0, 0, 5, 1, 40), Check.BEYOND);
        Check.rowIs("refused so far", x, 5, new int[40]);
        Check.due("copy of 40", x.copy(0, 0, 5, 0, 40), 1);
        Check.rowIs("copy of 40", x, 5, all);
    }

    private static void copyOfNone() {
        PeelReadings x = new PeelReadings();
        x.row(0, 0);
        Check.row(x, 1, 7);
        Check.due("copy of none among none", x.copy(0, 0, 0, 0, 0), 1);
        Check.due("copy of none to none", x.copy(1, 0, 0, 0, 0), 1);
        Check.due("copy of none from none", x.copy(0, 0, 1, 1, 0), 1);
        Check.finds("copy of one from none", x, x.copy(0, 0, 1, 0, 1), Check.BEYOND);
        Check.finds("copy of one to none", x, x.copy(1, 0, 0, 0, 1), Check.BEYOND);
        Check.finds("copy of none from beyond", x, x.copy(0, 1, 1, 0, 0), Check.BEYOND);
        Check.finds("copy of none to beyond", x, x.copy(1, 0, 0, 1, 0), Check.BEYOND);
        Check.finds("copy of none from below", x, x.copy(1, -1, 1, 0, 0), Check.BEYOND);
        Check.finds("copy of none to below", x, x.copy(1, 0, 1, -1, 0), Check.BEYOND);
        Check.rowIs("copies of none", x, 1, 7);
    }

    /** "perhaps itself, as if taken ahead" */
    private static void copyToItself() {
        PeelReadings x = new PeelReadings();
        Check.row(x, 3, 1, 2, 3, 4);
        Check.due("up by one", x.copy(3, 0, 3, 1, 3), 1);
        Check.rowIs("up by one", x, 3, 1, 1, 2, 3);
        Check.row(x, 3, 1, 2, 3, 4);
        Check.due("down by one", x.copy(3, 1, 3, 0, 3), 1);
        Check.rowIs("down by one", x, 3, 2, 3, 4, 4);
        Check.due("onto itself", x.copy(3, 0, 3, 0, 4), 1);
        Check.rowIs("onto itself", x, 3, 2, 3, 4, 4);
    }

    private static void copyUpToTheEnd() {
        PeelReadings x = new PeelReadings();
        Check.row(x, 0, 1, 2, 3);
        Check.row(x, 1, 0, 0);
        Check.due("the last two", x.copy(0, 1, 1, 0, 2), 1);
        Check.rowIs("the last two", x, 1, 2, 3);
        Check.due("the first to the last", x.copy(0, 0, 1, 1, 1), 1);
        Check.rowIs("the first to the last", x, 1, 2, 1);
        Check.finds("one beyond there", x, x.copy(0, 2, 1, 0, 2), Check.BEYOND);
        Check.finds("one beyond here", x, x.copy(0, 0, 1, 1, 2), Check.BEYOND);
        Check.rowIs("refused", x, 1, 2, 1);
        Check.due("asked() is left by copy", x.asked(), 1);
    }

    /** "The mean of a ROW's ints, cut" */
    private static void meanCut() {
        PeelReadings x = new PeelReadings();
        meanIs(x, 0, 0);
        meanIs(x, 7, 7);
        meanIs(x, 0, 0, 1);
        meanIs(x, 0, 0, -1);
        meanIs(x, -1, -1, -2);
        meanIs(x, 1, 1, 2);
        meanIs(x, 2, 2, 2, 4);
        meanIs(x, -2, -2, -2, -4);
        x.row(0, 0);
        Check.finds("mean of none", x, x.mean(0), Check.NOUGHT);
        Check.due("mean of none tells nothing", x.asked(), -2);
    }

    private static void meanIs(PeelReadings x, int want, int... items) {
        Check.row(x, 0, items);
        Check.told("mean of " + items.length, x, x.mean(0), want);
    }

    private static void meanOfTheGreatest() {
        PeelReadings x = new PeelReadings();
        meanIs(x, MOST, MOST);
        meanIs(x, LEAST, LEAST);
        meanIs(x, 0, LEAST, MOST);
        for (int v : new int[] {MOST, LEAST}) {
            x.row(1, 40);
            for (int i = 0; i < 40; i++) {
                x.lay(1, i, v);
            }
            Check.told("mean of forty of " + v, x, x.mean(1), v);
        }
    }

    /** "A TEXT is there with n blanks: n." */
    private static void textOfEachSize() {
        for (int n = 0; n <= 60; n++) {
            PeelReadings x = new PeelReadings();
            Check.due("text(" + n % 4 + ", " + n + ")", x.text(n % 4, n), n);
            Check.due("text(" + n % 4 + ", " + n + "): there", x.count(12), 1);
            for (int i = 0; i < n; i++) {
                Check.due("put(" + n % 4 + ", " + i + ", 0)", x.put(n % 4, i, 0), 1032);
            }
            Check.finds("put(" + n % 4 + ", " + n + ", 0)", x, x.put(n % 4, n, 0), Check.BEYOND);
        }
        PeelReadings x = new PeelReadings();
        Check.bad("text(0, 61)", x.text(0, 61));
        Check.finds("text(0, -1)", x, x.text(0, -1), Check.SIZE);
        Check.due("no TEXT by these", x.count(12), 0);
    }

    private static void textsAreApart() {
        PeelReadings x = new PeelReadings();
        for (int t = 0; t < 4; t++) {
            x.text(t, 60);
            Check.due("TEXTS that are there", x.count(12), t + 1);
            x.put(t, 0, 1 + t);
            x.put(t, 59, 11 + t);
        }
        for (int t = 0; t < 4; t++) {
            Check.due("put(" + t + ", 0, 0)", x.put(t, 0, 0), 1001 + t);
            Check.due("put(" + t + ", 1, 0)", x.put(t, 1, 0), 1032);
            Check.due("put(" + t + ", 58, 0)", x.put(t, 58, 0), 1032);
            Check.due("put(" + t + ", 59, 0)", x.put(t, 59, 0), 1011 + t);
        }
    }

    private static void textAnew() {
        PeelReadings x = new PeelReadings();
        x.text(1, 2);
        x.put(1, 0, 65);
        x.put(1, 1, 66);
        x.text(1, 61);
        x.text(1, -1);
        Check.due("a refused TEXT leaves it", x.put(1, 1, 67), 1066);
        x.text(1, 1);
        Check.due("a shorter TEXT", x.put(1, 0, 65), 1032);
        Check.finds("a shorter TEXT's end", x, x.put(1, 1, 65), Check.BEYOND);
        x.text(1, 2);
        Check.due("a longer TEXT", x.put(1, 0, 65), 1032);
        Check.due("a longer TEXT's last", x.put(1, 1, 65), 1032);
        Check.due("still one TEXT", x.count(12), 1);
    }

    /** "Byte i of a TEXT is v, cut to a byte: what it was, and 1000 more." */
    private static void putCutToAByte() {
        int[][] cuts = {{0, 0}, {1, 1}, {127, 127}, {128, -128}, {129, -127}, {255, -1}, {256, 0}, {257, 1}, {383, 127},
            {384, -128}, {-1, -1}, {-128, -128}, {-129, 127}, {-256, 0}, {MOST, -1}, {LEAST, 0}};
        PeelReadings x = new PeelReadings();
        x.text(0, 1);
        int before = 32;
        for (int[] cut : cuts) {
            Check.due("put(0, 0, " + cut[0] + ")", x.put(0, 0, cut[0]), 1000 + before);
            before = cut[1];
        }
        Check.due("put(0, 0, 0) at last", x.put(0, 0, 0), 1000 + before);
    }

    private static void firstAndLastByte() {
        PeelReadings x = new PeelReadings();
        x.text(3, 60);
        Check.due("put(3, 0, 1)", x.put(3, 0, 1), 1032);
        Check.due("put(3, 59, 2)", x.put(3, 59, 2), 1032);
        Check.finds("put(3, 60, 3)", x, x.put(3, 60, 3), Check.BEYOND);
        Check.finds("put(3, -1, 3)", x, x.put(3, -1, 3), Check.BEYOND);
        Check.due("put(3, 59, 4)", x.put(3, 59, 4), 1002);
        x.text(0, 0);
        Check.finds("put(0, 0, 1) of none", x, x.put(0, 0, 1), Check.BEYOND);
        Check.due("asked() is left by put", x.asked(), 0);
    }
}
