/** Boundary cases of ROWS: what 'Terms' 1 says of them, and promises 2 to 5. */
public final class RowsEdgesTest {
    private static final Check check = new Check();
    private static final Twins twins = new Twins(check);
    private static final int[] BESIDE = {Twins.LEAST, -1, 8, Twins.MOST};

    public static void main(String[] args) {
        missingAtFirst();
        lanesAndItems();
        rowAnew();
        rowBad();
        rowSize();
        setLowestBits();
        setBad();
        setMissing();
        setPlace();
        copyAll();
        copyAsAhead();
        copyBad();
        copyMissing();
        copyStore();
        copyPlace();
        drop();
        dropBad();
        dropMissing();
        check.end();
    }

    private static void missingAtFirst() {
        check.told("ROWS 0 .. 7 are missing (at first)");
        check.due("count(0)", new KiteTrays().count(0), 0);
        for (int r = 0; r < 8; r++) {
            int row = r;
            twins.found("set(" + r + ", 0, 0)", Scenes::none, x -> x.set(row, 0, 0), Twins.MISSING);
            twins.found("drop(" + r + ")", Scenes::none, x -> x.drop(row), Twins.MISSING);
            twins.found("copy(" + r + ", ..) onto itself", Scenes::none, x -> x.copy(row, 0, row, 0, 0), Twins.MISSING);
        }
    }

    private static void lanesAndItems() {
        check.told("or have a LANE (0 bytes, 1 shorts, 2 ints) and 0 to 40 ITEMS, 0 at first");
        for (int row = 0; row < 8; row++) {
            for (int lane = 0; lane < 3; lane++) {
                KiteTrays x = new KiteTrays();
                check.due("40 ITEMS", x.row(row, lane, 40), 40);
                check.due("count(0)", x.count(0), 1);
                twins.items("40 ITEMS", x, row, new int[40]);
                check.due("the last", x.set(row, 39, -1), -1);
                check.due("one more", x.set(row, 40, -1), -1000012);
                check.due("none", x.row(row, lane, 0), 0);
                check.due("it is there yet", x.count(0), 1);
                check.due("without a first", x.set(row, 0, 1), -1000012);
                check.due("drop of none", x.drop(row), 0);
            }
        }
    }

    private static void rowAnew() {
        check.told("A ROW of a LANE with n ITEMS, in place of what is there: n.");
        KiteTrays x = Scenes.rows();
        check.due("as long as before", x.row(0, 0, 5), 5);
        twins.items("as long as before", x, 0, 0, 0, 0, 0, 0);
        x = Scenes.rows();
        check.due("shorter, then longer", x.row(0, 0, 1), 1);
        check.due("its end", x.set(0, 1, 1), -1000012);
        check.due("shorter, then longer", x.row(0, 0, 40), 40);
        twins.items("shorter, then longer", x, 0, 0, 0, 0, 0, 0, 0);
        // All 40 are 0 again, the first and the last of them, too, where there were others.
        x = new KiteTrays();
        x.row(5, 0, 40);
        for (int i = 0; i < 40; i++) {
            x.set(5, i, 1 + i % 35);
        }
        check.due("40 anew", x.row(5, 0, 40), 40);
        twins.items("40 anew", x, 5, new int[40]);
        x = Scenes.rows();
        check.due("of another LANE", x.row(0, 1, 5), 5);
        check.due("its LANE", x.set(0, 0, 40000), -25536);
        x = Scenes.rows();
        check.due("where one is missing", x.row(4, 2, 3), 3);
        twins.items("the others stay", x, 0, 1, 2, 3, 4, 5);
        check.due("count(0)", x.count(0), 7);
        check.due("behind a drop", x.drop(0) + x.row(0, 0, 5), 10);
        twins.items("behind a drop", x, 0, 0, 0, 0, 0, 0);
        x = Scenes.busy();
        x.row(0, 0, 1);
        check.due("status()", x.status(), 0);
    }

    private static void rowBad() {
        check.told("BAD: ROW, LANE, n above 40; SIZE.");
        twins.bounds("row(v, 0, 7)", Scenes::busy, (x, v) -> x.row(v, 0, 7), 0, 7, 7, 7);
        twins.bounds("row(0, v, 7)", Scenes::busy, (x, v) -> x.row(0, v, 7), 0, 7, 2, 7);
        check.due("row(0, 0, 40)", Scenes.busy().row(0, 0, 40), 40);
        for (int n : new int[] {41, 42, Twins.MOST}) {
            twins.refused("row(0, 0, " + n + ")", Scenes::busy, x -> x.row(0, 0, n), Twins.BAD);
            twins.refused("row(5, 0, " + n + ")", Scenes::none, x -> x.row(5, 0, n), Twins.BAD);
        }
        for (int row : BESIDE) {
            twins.refused("row(" + row + ", 0, 41)", Scenes::busy, x -> x.row(row, 0, 41), Twins.BAD);
        }
    }

    private static void rowSize() {
        check.told("4 SIZE (fewer than none)");
        check.due("row(0, 0, 0)", Scenes.busy().row(0, 0, 0), 0);
        for (int n : new int[] {-1, -2, -41, Twins.LEAST}) {
            twins.found("row(0, 0, " + n + ")", Scenes::busy, x -> x.row(0, 0, n), Twins.SIZE);
            twins.found("row(7, 2, " + n + ")", Scenes::none, x -> x.row(7, 2, n), Twins.SIZE);
        }
    }

    private static void setLowestBits() {
        check.told("ITEM i becomes v, its lowest bits, as many as the LANE has: what it is then.");
        int[][] bytes = {{0, 0}, {127, 127}, {128, -128}, {255, -1}, {256, 0}, {291, 35}, {-1, -1}, {-128, -128}, {-129, 127},
            {-256, 0}, {32767, -1}, {32768, 0}, {Twins.MOST, -1}, {Twins.LEAST, 0}};
        int[][] shorts = {{0, 0}, {255, 255}, {256, 256}, {32767, 32767}, {32768, -32768}, {65535, -1}, {65536, 0}, {65571, 35},
            {-1, -1}, {-32768, -32768}, {-32769, 32767}, {Twins.MOST, -1}, {Twins.LEAST, 0}};
        int[][] ints = {{0, 0}, {65536, 65536}, {-1, -1}, {Twins.MOST, Twins.MOST}, {Twins.LEAST, Twins.LEAST}};
        int[][][] all = {bytes, shorts, ints};
        for (int lane = 0; lane < 3; lane++) {
            for (int[] v : all[lane]) {
                KiteTrays x = new KiteTrays();
                x.row(5, lane, 3);
                check.due("LANE " + lane + ": set(5, 1, " + v[0] + ")", x.set(5, 1, v[0]), v[1]);
                check.due("status()", x.status(), 0);
                // What an ITEM is then is seen, where a PAPER can be so HIGH; its neighbours are 0 yet.
                if (v[1] >= 0 && v[1] <= 35) {
                    twins.items("LANE " + lane + ", " + v[0], x, 5, 0, v[1], 0);
                } else {
                    Twins.watchLeaflet(x);
                    check.due("by none", x.who(0, 3, 5, 1, 1), Twins.NONE);
                }
            }
        }
    }

    private static void setBad() {
        check.told("BAD: ROW; NULL; PLACE.");
        twins.bounds("set(v, 0, 9)", Scenes::busy, (x, v) -> x.set(v, 0, 9), 0, 9, 7, 9);
    }

    private static void setMissing() {
        check.told("BAD: ROW; NULL; PLACE. (a ROW that is missing)");
        twins.found("set(4, 0, 1)", Scenes::busy, x -> x.set(4, 0, 1), Twins.MISSING);
        twins.found("set(0, 0, 1) behind drop(0)", () -> dropped(0), x -> x.set(0, 0, 1), Twins.MISSING);
    }

    private static KiteTrays dropped(int row) {
        KiteTrays x = Scenes.busy();
        x.drop(row);
        return x;
    }

    private static void setPlace() {
        check.told("2 PLACE (no such place of a ROW)");
        check.due("the first", Scenes.busy().set(0, 0, 9), 9);
        check.due("the last of 5", Scenes.busy().set(0, 4, 9), 9);
        check.due("the last of 40", Scenes.busy().set(7, 39, 9), 9);
        for (int i : new int[] {-1, 5, 39, 40, Twins.MOST, Twins.LEAST}) {
            twins.found("set(0, " + i + ", 9)", Scenes::busy, x -> x.set(0, i, 9), Twins.PLACE);
        }
        twins.found("set(7, 40, 9)", Scenes::busy, x -> x.set(7, 40, 9), Twins.PLACE);
        twins.found("set(3, 0, 9), without ITEMS", Scenes::busy, x -> x.set(3, 0, 9), Twins.PLACE);
    }

    private static void copyAll() {
        check.told("n ITEMS of a from i on come to b from j on");
        KiteTrays x = Scenes.busy();
        check.due("the first to the last", x.copy(0, 0, 6, 3, 1), 1);
        check.due("status()", x.status(), 0);
        check.due("the last to the first", x.copy(0, 4, 6, 0, 1), 1);
        twins.items("one each", x, 6, 5, 12, 13, 1);
        twins.items("what is copied stays", x, 0, 1, 2, 3, 4, 5);
        x = Scenes.busy();
        check.due("as many as there is room for", x.copy(0, 1, 6, 0, 4), 4);
        twins.items("as many as there is room for", x, 6, 2, 3, 4, 5);
        x = Scenes.busy();
        check.due("to the end of 40", x.copy(0, 0, 7, 35, 5), 5);
        int[] items = new int[40];
        for (int k = 0; k < 5; k++) {
            items[35 + k] = k + 1;
        }
        twins.items("to the end of 40", x, 7, items);
        x = new KiteTrays();
        x.row(0, 2, 40);
        x.row(1, 2, 40);
        x.set(0, 0, 1);
        x.set(0, 39, 2);
        check.due("all 40", x.copy(0, 0, 1, 0, 40), 40);
        items = new int[40];
        items[0] = 1;
        items[39] = 2;
        twins.items("all 40", x, 1, items);
        for (int[] at : new int[][] {{0, 0}, {5, 4}, {5, 0}, {0, 4}}) {
            twins.lookedWithoutFinding("none, at " + at[0] + ", " + at[1], Scenes::busy, y -> y.copy(0, at[0], 6, at[1], 0), 0);
        }
        twins.lookedWithoutFinding("none of one without ITEMS", Scenes::busy, y -> y.copy(3, 0, 3, 0, 0), 0);
    }

    private static void copyAsAhead() {
        check.told("as they were ahead: n.");
        KiteTrays x = Scenes.busy();
        check.due("onto itself, one on", x.copy(0, 0, 0, 1, 4), 4);
        twins.items("onto itself, one on", x, 0, 1, 1, 2, 3, 4);
        x = Scenes.busy();
        check.due("onto itself, one back", x.copy(0, 1, 0, 0, 4), 4);
        twins.items("onto itself, one back", x, 0, 2, 3, 4, 5, 5);
        twins.lookedWithoutFinding("onto itself", Scenes::busy, y -> y.copy(0, 0, 0, 0, 5), 5);
        // What was copied is another's then: a later set of one is none of the other.
        x = Scenes.busy();
        x.copy(0, 0, 6, 0, 4);
        x.set(0, 0, 30);
        twins.items("a copy", x, 6, 1, 2, 3, 4);
    }

    private static void copyBad() {
        check.told("BAD: ROWS; NULL; STORE; PLACE (i, j, n below 0, or beyond an end).");
        twins.bounds("copy(v, 0, 7, 0, 1)", Scenes::busy, (x, v) -> x.copy(v, 0, 7, 0, 1), 0, 1, 7, 1);
        twins.bounds("copy(0, 0, v, 0, 1)", Scenes::busy, (x, v) -> x.copy(0, 0, v, 0, 1), 0, 1, 7, 1);
        for (int row : BESIDE) {
            twins.refused("copy(" + row + ", ..) to the same", Scenes::busy, x -> x.copy(row, 0, row, 0, 0), Twins.BAD);
        }
    }

    private static void copyMissing() {
        check.told("1 NULL (a ROW that is missing)");
        twins.found("copy from 4", Scenes::busy, x -> x.copy(4, 0, 0, 0, 1), Twins.MISSING);
        twins.found("copy to 4", Scenes::busy, x -> x.copy(0, 0, 4, 0, 1), Twins.MISSING);
        twins.found("copy of none to 4", Scenes::busy, x -> x.copy(0, 0, 4, 0, 0), Twins.MISSING);
        twins.found("copy from 4 to 5", Scenes::busy, x -> x.copy(4, 0, 5, 0, 0), Twins.MISSING);
        // The LANE of a ROW that was dropped is forgotten.
        twins.found("copy of shorts to what was bytes", () -> dropped(0), x -> x.copy(1, 0, 0, 0, 1), Twins.MISSING);
    }

    private static void copyStore() {
        check.told("5 STORE (ROWS of two LANES)");
        int[][] pairs = {{0, 1}, {1, 0}, {0, 2}, {2, 0}, {1, 2}, {2, 1}};
        for (int[] p : pairs) {
            twins.found("copy(" + p[0] + ", .., " + p[1] + ", ..)", Scenes::busy, x -> x.copy(p[0], 0, p[1], 0, 1), Twins.STORE);
            twins.found("copy of none", Scenes::busy, x -> x.copy(p[0], 0, p[1], 0, 0), Twins.STORE);
        }
    }

    private static void copyPlace() {
        check.told("PLACE (i, j, n below 0, or beyond an end)");
        // ROW 0 has 5 ITEMS, ROW 6 has 4.
        int[][] outside = {{-1, 0, 1}, {0, -1, 1}, {0, 0, -1}, {-1, 0, 0}, {0, -1, 0}, {5, 0, 1}, {4, 0, 2}, {0, 4, 1}, {0, 3, 2},
            {0, 0, 5}, {1, 1, 4}, {6, 0, 0}, {0, 5, 0}, {Twins.MOST, 0, 1}, {0, Twins.MOST, 1}, {0, 0, Twins.MOST},
            {1, 1, Twins.MOST}, {Twins.MOST, Twins.MOST, Twins.MOST}, {Twins.LEAST, 0, 0}, {0, Twins.LEAST, 0},
            {0, 0, Twins.LEAST}, {Twins.LEAST, Twins.LEAST, Twins.LEAST}, {Twins.MOST, 0, 2}, {5, 4, -1}, {0, 0, 41}};
        for (int[] o : outside) {
            String call = "copy(0, " + o[0] + ", 6, " + o[1] + ", " + o[2] + ")";
            twins.found(call, Scenes::busy, x -> x.copy(0, o[0], 6, o[1], o[2]), Twins.PLACE);
        }
        twins.found("copy of 41 onto itself", Scenes::busy, x -> x.copy(7, 0, 7, 0, 41), Twins.PLACE);
        twins.found("copy of one without ITEMS", Scenes::busy, x -> x.copy(3, 0, 7, 0, 1), Twins.PLACE);
    }

    private static void drop() {
        check.told("A ROW is missing from now on: how many ITEMS it had.");
        KiteTrays x = Scenes.busy();
        int[] had = {5, 3, 2, 0, -1000011, -1000011, 4, 40};
        int left = 6;
        for (int row = 0; row < 8; row++) {
            check.due("drop(" + row + ")", x.drop(row), had[row]);
            check.due("status()", x.status(), had[row] < 0 ? 1 : 0);
            left -= had[row] < 0 ? 0 : 1;
            check.due("count(0)", x.count(0), left);
            check.due("set behind it", x.set(row, 0, 1), -1000011);
        }
    }

    private static void dropBad() {
        check.told("BAD; NULL.");
        twins.bounds("drop(v)", Scenes::busy, (x, v) -> x.drop(v), 0, 5, 7, 40);
    }

    private static void dropMissing() {
        check.told("BAD; NULL. (a ROW that is missing)");
        twins.found("drop(4)", Scenes::busy, x -> x.drop(4), Twins.MISSING);
        twins.found("drop(0) again", () -> dropped(0), x -> x.drop(0), Twins.MISSING);
    }
}
