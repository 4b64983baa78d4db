/** Promises 2 to 5, and status (39) by them. */
public final class RowsTest {
    private static final int BAD = KiteTrays.BAD;
    private static final int MISSING = -1000011, PLACE = -1000012, SIZE = -1000014, STORE = -1000015;
    private static final int MOST = Integer.MAX_VALUE, LEAST = Integer.MIN_VALUE;
    private static final Check check = new Check();

    public static void main(String[] args) {
        rows();
        sets();
        copies();
        drops();
        check.end();
    }

    private static void rows() {
        KiteTrays x = new KiteTrays();
        check.due("status() at first", x.status(), 0);
        check.due("row(0, 0, 0)", x.row(0, 0, 0), 0);
        check.due("row(7, 2, 40)", x.row(7, 2, 40), 40);
        check.due("count(0)", x.count(0), 2);
        check.due("row(8, 0, 1)", x.row(8, 0, 1), BAD);
        check.due("row(-1, 0, 1)", x.row(-1, 0, 1), BAD);
        check.due("row(1, -1, 1)", x.row(1, -1, 1), BAD);
        check.due("row(1, 3, -1)", x.row(1, 3, -1), BAD);
        check.due("row(1, 0, 41)", x.row(1, 0, 41), BAD);
        check.due("status() behind BAD", x.status(), 0);
        check.due("row(7, 1, -1)", x.row(7, 1, -1), SIZE);
        check.due("status() behind SIZE", x.status(), 4);
        check.due("row(9, 0, 1)", x.row(9, 0, 1), BAD);
        check.due("status() is kept behind BAD", x.status(), 4);
        check.due("ROW 7 stays", x.set(7, 39, 70000), 70000);
        check.due("status() behind a call without a FINDING", x.status(), 0);
        check.due("row(7, 2, 40) again", x.row(7, 2, 40), 40);
        Check.fill(x, 6, 2, 1, 2, 3);
        check.due("row(6, 2, 3) anew", x.row(6, 2, 3), 3);
        zeroAt(x, 6, 0);
        zeroAt(x, 6, 2);
        Check.fill(x, 6, 2, 1, 2, 3);
        x.drop(6);
        check.due("row(6, 0, 4) where one was dropped", x.row(6, 0, 4), 4);
        zeroAt(x, 6, 0);
        zeroAt(x, 6, 1);
        zeroAt(x, 7, 39);
    }

    /** That an ITEM is 0 is seen by a PAPER that is not UP, whose HIGH is 0 in each HOUR. */
    private static void zeroAt(KiteTrays x, int row, int i) {
        if (x.count(1) == 0) {
            Check.read(x, "r1,1;b1,1;");
        }
        check.due("ITEM " + i + " of " + row + " is 0", x.who(0, 2, row, i, 1), 60);
    }

    private static void sets() {
        KiteTrays x = new KiteTrays();
        check.due("set of a missing one", x.set(3, 0, 1), MISSING);
        check.due("status()", x.status(), 1);
        check.due("set(8, ..)", x.set(8, 0, 1), BAD);
        check.due("set(-1, ..)", x.set(-1, 0, 1), BAD);
        x.row(0, 0, 2);
        x.row(1, 1, 2);
        x.row(2, 2, 2);
        check.due("a byte 127", x.set(0, 0, 127), 127);
        check.due("a byte 128", x.set(0, 0, 128), -128);
        check.due("a byte 255", x.set(0, 1, 255), -1);
        check.due("a byte 256 + 5", x.set(0, 1, 261), 5);
        check.due("a byte LEAST", x.set(0, 1, LEAST), 0);
        check.due("a short 32767", x.set(1, 0, 32767), 32767);
        check.due("a short 32768", x.set(1, 0, 32768), -32768);
        check.due("a short 65535", x.set(1, 1, 65535), -1);
        check.due("an int", x.set(2, 1, MOST), MOST);
        check.due("an int", x.set(2, 1, LEAST), LEAST);
        for (int i : new int[] {-1, 2, MOST, LEAST}) {
            check.due("set(2, " + i + ", 1)", x.set(2, i, 1), PLACE);
            check.due("status()", x.status(), 2);
        }
        x.row(4, 0, 0);
        check.due("set in an empty one", x.set(4, 0, 1), PLACE);
    }

    private static void copies() {
        KiteTrays x = new KiteTrays();
        Check.fill(x, 0, 0, 1, 2, 3, 4, 5);
        Check.fill(x, 1, 0, 0, 0, 0);
        Check.fill(x, 2, 1, 0, 0, 0);
        check.due("copy(8, ..)", x.copy(8, 0, 1, 0, 1), BAD);
        check.due("copy(.., 8, ..)", x.copy(0, 0, 8, 0, 1), BAD);
        check.due("copy(-1, ..)", x.copy(-1, 0, 7, 0, 1), BAD);
        check.due("copy from a missing one", x.copy(7, 0, 1, 0, 1), MISSING);
        check.due("copy to a missing one", x.copy(0, -1, 7, 0, 1), MISSING);
        check.due("status()", x.status(), 1);
        check.due("copy of two LANES, ahead of PLACE", x.copy(0, -1, 2, 0, 1), STORE);
        check.due("status()", x.status(), 5);
        int[][] outside = {{-1, 0, 1}, {0, -1, 1}, {0, 0, -1}, {5, 0, 1}, {0, 3, 1}, {0, 0, 4}, {6, 0, 0}, {0, 4, 0},
            {MOST, 0, 1}, {0, MOST, 1}, {0, 0, MOST}, {1, 1, MOST}, {LEAST, LEAST, LEAST}};
        for (int[] o : outside) {
            check.due("copy outside", x.copy(0, o[0], 1, o[1], o[2]), PLACE);
            check.due("status()", x.status(), 2);
        }
        check.due("copy of none at the ends", x.copy(0, 5, 1, 3, 0), 0);
        check.due("status()", x.status(), 0);
        check.due("copy of three", x.copy(0, 2, 1, 0, 3), 3);
        Check.read(x, "r1,1;b1,1;");
        itemsAre(x, 1, 3, 4, 5);
        check.due("copy onto itself, forwards", x.copy(0, 0, 0, 1, 4), 4);
        itemsAre(x, 0, 1, 1, 2, 3, 4);
        check.due("copy onto itself, backwards", x.copy(0, 2, 0, 0, 3), 3);
        itemsAre(x, 0, 2, 3, 4, 3, 4);
    }

    /**
     * ITEMS can be seen only by what fits them: a leaflet with 40 OUT, in a wind of 9, is 36 less its WEIGHT higher behind
     * one HOUR, so the one WEIGHT that fits tells the ITEM.
     */
    private static void itemsAre(KiteTrays x, int row, int... items) {
        Check.read(x, "r1,99;w9;l0,1;");
        x.send(0, 40);
        for (int i = 0; i < items.length; i++) {
            check.due("ITEM " + i + " of " + row, x.who(0, 3, row, i, 1), 36 - items[i]);
        }
    }

    private static void drops() {
        KiteTrays x = new KiteTrays();
        check.due("drop(8)", x.drop(8), BAD);
        check.due("drop(-1)", x.drop(-1), BAD);
        check.due("drop of a missing one", x.drop(5), MISSING);
        x.row(5, 2, 17);
        check.due("drop(5)", x.drop(5), 17);
        check.due("status()", x.status(), 0);
        check.due("count(0)", x.count(0), 0);
        check.due("drop(5) again", x.drop(5), MISSING);
        check.due("set behind drop", x.set(5, 0, 1), MISSING);
        x.row(5, 2, 0);
        check.due("drop of an empty one", x.drop(5), 0);
    }
}
