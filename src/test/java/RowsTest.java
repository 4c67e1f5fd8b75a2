/** Promises 1 to 7: a new object, row, lay, at, tear, copy, mean. */
final class RowsTest {
    public static void main(String[] args) {
        newObject();
        row();
        layAndAt();
        tear();
        copy();
        mean();
        Check.end();
    }

    private static void newObject() {
        PeelReadings x = new PeelReadings();
        for (int what = 0; what <= 13; what++) {
            Check.due("new: count(" + what + ")", x.count(what), 0);
        }
        for (int r = 0; r < 6; r++) {
            Check.finds("new: at(" + r + ", 0)", x, x.at(r, 0), Check.NOTHING);
        }
        for (int t = 0; t < 4; t++) {
            Check.finds("new: fault(" + t + ")", x, x.fault(t), Check.NOTHING);
        }
        Check.bad("new: peel(0, 0)", x.peel(0, 0));
        Check.due("new: covered()", x.covered(), PeelReadings.STATE);
    }

    private static void row() {
        PeelReadings x = new PeelReadings();
        Check.due("row(0, 3)", x.row(0, 3), 3);
        Check.rowIs("row(0, 3)", x, 0, 0, 0, 0);
        Check.due("row(5, 40)", x.row(5, 40), 40);
        Check.told("at(5, 39)", x, x.at(5, 39), 0);
        Check.due("row(1, 0)", x.row(1, 0), 0);
        Check.finds("at(1, 0)", x, x.at(1, 0), Check.BEYOND);
        x.lay(0, 1, 7);
        Check.due("row(0, 2) anew", x.row(0, 2), 2);
        Check.rowIs("row(0, 2) anew", x, 0, 0, 0);
        Check.bad("row(-1, 1)", x.row(-1, 1));
        Check.bad("row(6, 1)", x.row(6, 1));
        Check.bad("row(0, 41)", x.row(0, 41));
        Check.bad("row(6, -1)", x.row(6, -1));
        Check.finds("row(0, -1)", x, x.row(0, -1), Check.SIZE);
        Check.finds("row(0, least)", x, x.row(0, Integer.MIN_VALUE), Check.SIZE);
        Check.rowIs("row(0, -1)", x, 0, 0, 0);
    }

    private static void layAndAt() {
        PeelReadings x = new PeelReadings();
        Check.finds("lay(0, 0, 1)", x, x.lay(0, 0, 1), Check.NOTHING);
        x.row(0, 2);
        Check.told("lay(0, 1, 5)", x, x.lay(0, 1, 5), 0);
        Check.told("lay(0, 1, least)", x, x.lay(0, 1, Integer.MIN_VALUE), 5);
        Check.told("at(0, 1)", x, x.at(0, 1), Integer.MIN_VALUE);
        Check.told("at(0, 0)", x, x.at(0, 0), 0);
        Check.finds("lay(0, 2, 1)", x, x.lay(0, 2, 1), Check.BEYOND);
        Check.finds("lay(0, -1, 1)", x, x.lay(0, -1, 1), Check.BEYOND);
        Check.finds("at(0, 2)", x, x.at(0, 2), Check.BEYOND);
        Check.finds("at(0, -1)", x, x.at(0, -1), Check.BEYOND);
        Check.finds("at(3, 99)", x, x.at(3, 99), Check.NOTHING);
        Check.bad("lay(6, 0, 1)", x.lay(6, 0, 1));
        Check.bad("lay(-1, 0, 1)", x.lay(-1, 0, 1));
        Check.bad("at(6, 0)", x.at(6, 0));
        Check.bad("at(-1, 0)", x.at(-1, 0));
    }

    private static void tear() {
        PeelReadings x = new PeelReadings();
        Check.finds("tear(2)", x, x.tear(2), Check.NOTHING);
        x.row(2, 0);
        Check.due("tear(2)", x.tear(2), 1);
        Check.finds("tear(2) again", x, x.tear(2), Check.NOTHING);
        Check.due("count(11)", x.count(11), 0);
        Check.bad("tear(6)", x.tear(6));
        Check.bad("tear(-1)", x.tear(-1));
    }

    private static void copy() {
        PeelReadings x = new PeelReadings();
        Check.row(x, 0, 1, 2, 3, 4, 5);
        Check.row(x, 1, 9, 9);
        Check.due("copy to another", x.copy(0, 1, 1, 0, 2), 1);
        Check.rowIs("copy to another", x, 1, 2, 3);
        Check.due("copy up over itself", x.copy(0, 0, 0, 1, 4), 1);
        Check.rowIs("copy up over itself", x, 0, 1, 1, 2, 3, 4);
        Check.due("copy down over itself", x.copy(0, 2, 0, 0, 3), 1);
        Check.rowIs("copy down over itself", x, 0, 2, 3, 4, 3, 4);
        Check.due("copy of none at the ends", x.copy(0, 5, 1, 2, 0), 1);
        Check.finds("copy of none beyond", x, x.copy(0, 6, 1, 0, 0), Check.BEYOND);
        Check.finds("copy too many from", x, x.copy(1, 1, 0, 0, 2), Check.BEYOND);
        Check.finds("copy too many to", x, x.copy(0, 0, 1, 1, 2), Check.BEYOND);
        Check.finds("copy from below", x, x.copy(0, -1, 1, 0, 1), Check.BEYOND);
        Check.finds("copy to below", x, x.copy(0, 0, 1, -1, 1), Check.BEYOND);
        Check.finds("copy of most", x, x.copy(0, 1, 1, 1, Integer.MAX_VALUE), Check.BEYOND);
        Check.finds("copy from most", x, x.copy(0, Integer.MAX_VALUE, 1, 1, 1), Check.BEYOND);
        Check.finds("copy from missing", x, x.copy(2, 0, 1, 0, 1), Check.NOTHING);
        Check.finds("copy to missing", x, x.copy(1, 99, 2, 0, 1), Check.NOTHING);
        Check.finds("copy of fewer than none", x, x.copy(2, 0, 3, 0, -1), Check.SIZE);
        Check.bad("copy(6, ..)", x.copy(6, 0, 0, 0, -1));
        Check.bad("copy(.., -1, ..)", x.copy(0, 0, -1, 0, 1));
        Check.rowIs("refused copies", x, 1, 2, 3);
    }

    private static void mean() {
        PeelReadings x = new PeelReadings();
        Check.row(x, 0, 3, 4);
        Check.told("mean of 3, 4", x, x.mean(0), 3);
        Check.row(x, 0, -3, -4);
        Check.told("mean of -3, -4", x, x.mean(0), -3);
        int most = Integer.MAX_VALUE;
        Check.row(x, 0, most, most, most);
        Check.told("mean of the greatest", x, x.mean(0), most);
        Check.row(x, 0);
        Check.finds("mean of none", x, x.mean(0), Check.NOUGHT);
        Check.finds("mean of missing", x, x.mean(1), Check.NOTHING);
        Check.bad("mean(6)", x.mean(6));
        Check.bad("mean(-1)", x.mean(-1));
    }
}
