import java.util.function.Supplier;

/** Boundary cases of rows that tell how HIGH a PAPER is: 'Terms' 3, and promises 27 to 29. */
public final class FitsEdgesTest {
    private static final int BAD = KiteTrays.BAD, NONE = KiteTrays.NONE;
    private static final Check check = new Check();
    private static final Twins twins = new Twins(check);

    public static void main(String[] args) {
        behindEachHour();
        hoursAreBounded();
        kinds();
        bellies();
        weights();
        forces();
        strongs();
        noSuchHeight();
        whoBad();
        windsBad();
        tapesBad();
        missing();
        places();
        check.end();
    }

    /** One call that asks by a ROW of ints of these ITEMS, all of them. */
    private static long who(Supplier<KiteTrays> made, int which, int... items) {
        KiteTrays x = made.get();
        Check.fill(x, 7, 2, items);
        return x.who(0, which, 7, 0, items.length);
    }

    private static long winds(Supplier<KiteTrays> made, int wind, int... items) {
        KiteTrays x = made.get();
        Check.fill(x, 7, 2, items);
        return x.winds(0, wind, 7, 0, items.length);
    }

    private static void tapes(Supplier<KiteTrays> made, int many, int least, int... items) {
        KiteTrays x = made.get();
        Check.fill(x, 7, 2, items);
        check.due("how many", x.tapes(0, 0, 7, 0, items.length), many);
        check.due("the least", x.tapes(0, 1, 7, 0, items.length), least);
    }

    private static void behindEachHour() {
        check.told("A row tells how HIGH a PAPER is behind each of n HOURS (1 to 12) from now on.");
        // 1 yard behind each HOUR, by a BELLY of 5 alone; from HIGH 3 on, if there were three HOURS.
        int[] steady = {1, 2, 3, 4, 5, 6, 7, 8, 9, 10, 11, 12};
        check.due("all twelve", who(Scenes.steady(1), 1, steady), 32);
        for (int h = 0; h < 12; h++) {
            int[] other = steady.clone();
            other[h]++;
            check.due("but the " + h + "th", who(Scenes.steady(1), 1, other), 0);
            check.due("but the " + h + "th", who(Scenes.steady(1), 2, other), 0);
        }
        check.due("now is not told", who(Scenes.steady(1), 1, 0, 1, 2), 0);
        check.due("from now on", who(Scenes.later(Scenes.steady(1), 3), 1, 4, 5, 6), 32);
        // One that SNAPS, or is in its TRAY, is 0 HIGH.
        check.due("it SNAPS by 1 to 29", who(Scenes.sent("r1,1;w9;l0,1;", 5), 2, 0), 29 + 25);
        check.due("in its TRAY", who(Scenes.read("r1,1;w9;l0,1;"), 2, 0, 0, 0), 60);
        // One that comes down stays down.
        check.due("down, and UP again", who(Scenes.sent("r1,99;w0;w9;l0,1;", 9), 2, 0, 1), 0);
    }

    private static void hoursAreBounded() {
        check.told("n HOURS (1 to 12)");
        // ROW 7 has 40 ITEMS of 0; PAPER 1 is in its TRAY.
        twins.bounds("who, n of v", Scenes::busy, (x, v) -> x.who(1, 0, 7, 0, v), 1, 62, 12, 62);
        twins.bounds("winds, n of v", Scenes::busy, (x, v) -> x.winds(1, 0, 7, 0, v), 1, 1023, 12, 1023);
        twins.bounds("tapes, n of v", Scenes::busy, (x, v) -> x.tapes(1, 0, 7, 0, v), 1, 99, 12, 99);
    }

    private static void kinds() {
        check.told("KINDS (bits 1 to 5)");
        // A BELLY of 7 in a wind of 5, WEIGHT 1, beside another treaty: 34, 16, 69 yards (40 OUT), 19, 19.
        Supplier<KiteTrays> made = Scenes.sent("r1,99;w5;w0;b7,1;t1,1;", 40, 40);
        check.due("a bill", who(made, 0, 34), 2);
        check.due("a finance bill", who(made, 0, 16), 4);
        check.due("a treaty", who(made, 0, 40), 8);
        check.due("a leaflet, or clouded", who(made, 0, 19), 48);
        check.due("none", who(made, 0, 0), 0);
        check.due("none", who(made, 0, 33), 0);
        // 35 HIGH without wind: lower by 1; clouded, it is 29 higher, with 40 OUT.
        Supplier<KiteTrays> high = Scenes.later(Scenes.sent("r1,99;w9;w0;l9,1;", 40), 1);
        check.due("all but clouded", who(high, 0, 34), 30);
        check.due("clouded", who(high, 0, 40), 32);
        check.due("all: in its TRAY", who(Scenes.read("r1,1;b1,1;"), 0, 0), 62);
        check.due("all: SNAPPED", who(Scenes.later(Scenes.sent("r1,1;w9;b9,1;", 1), 1), 0, 0), 62);
        // As a treaty, it would lift another that lifts it.
        check.due("a bill as a treaty", who(Scenes.sent("r1,99;w2;b3,1;t3,1;", 40, 40), 0, 11), 8);
        check.due("the treaty in its TRAY", who(Scenes.sent("r1,99;w2;b3,1;t3,1;", 40), 0, 11), 0);
        check.due("the treaty in its TRAY", who(Scenes.sent("r1,99;w2;b3,1;t3,1;", 40), 0, 5), 10);
    }

    private static void bellies() {
        check.told("BELLIES (0 to 9, bits)");
        // 4 times BELLY less 1; without one it comes down.
        Supplier<KiteTrays> made = Scenes.sent("r1,99;w4;b5,1;", 40);
        check.due("0", who(made, 1, 0), 1);
        for (int belly = 1; belly <= 9; belly++) {
            check.due("" + belly, who(made, 1, 4 * belly - 1), 1 << belly);
        }
        check.due("10 would be", who(made, 1, 39), 0);
        check.due("all of a leaflet", who(Scenes.sent("r1,99;w4;l5,1;", 40), 1, 15), 1023);
        check.due("all that come down", who(Scenes.sent("r1,99;w1;b5,10;", 40), 1, 0), 1023);
        check.due("none", who(made, 1, 1), 0);
    }

    private static void weights() {
        check.told("WEIGHTS (1 to 60: how many; the least; the greatest; NONE) of it by which it is so.");
        // 36 less WEIGHT; of a bill with all BELLY 81 less WEIGHT, 40 OUT.
        Supplier<KiteTrays> light = Scenes.sent("r1,99;w9;l0,7;", 40);
        Supplier<KiteTrays> heavy = Scenes.sent("r1,99;w9;b9,7;", 40);
        int[][] due = {{35, 1, 1, 1}, {34, 1, 2, 2}, {1, 1, 35, 35}, {0, 25, 36, 60}, {36, 0, NONE, NONE}};
        for (int[] d : due) {
            for (int which = 2; which <= 4; which++) {
                check.due(which + " of " + d[0], who(light, which, d[0]), d[which - 1]);
            }
        }
        int[][] more = {{21, 1, 60, 60}, {22, 1, 59, 59}, {20, 0, NONE, NONE}, {39, 1, 42, 42}, {40, 41, 1, 41}};
        for (int[] d : more) {
            for (int which = 2; which <= 4; which++) {
                check.due(which + " of " + d[0], who(heavy, which, d[0]), d[which - 1]);
            }
        }
        // What fitted before is forgotten.
        KiteTrays x = light.get();
        Check.fill(x, 0, 2, 34, 36, 0);
        for (int i : new int[] {0, 1, 2, 1}) {
            check.due("how many", x.who(0, 2, 0, i, 1), new int[] {1, 0, 25}[i]);
            check.due("the least", x.who(0, 3, 0, i, 1), new int[] {2, NONE, 36}[i]);
            check.due("the greatest", x.who(0, 4, 0, i, 1), new int[] {2, NONE, 60}[i]);
            check.due("BELLIES, of any other WEIGHT none", x.who(0, 1, 0, i, 1), 0);
            check.due("FORCES", x.winds(0, 0, 0, i, 1), new int[] {0, 0, 0b11}[i]);
            check.due("STRONGS", x.tapes(0, 1, 0, i, 1), NONE);
        }
        // All of them: in its TRAY.
        check.due("how many", who(Scenes.read("r1,1;b1,1;"), 2, 0), 60);
        check.due("the least", who(Scenes.read("r1,1;b1,1;"), 3, 0), 1);
        check.due("the greatest", who(Scenes.read("r1,1;b1,1;"), 4, 0), 60);
    }

    private static void forces() {
        check.told("FORCES (0 to 9, bits) of a WIND by which it is so.");
        Supplier<KiteTrays> made = Scenes.sent("r1,99;w5;w6;l0,1;", 40);
        check.due("0", winds(made, 0, 0), 1);
        for (int force = 1; force <= 9; force++) {
            check.due("" + force, winds(made, 0, 4 * force - 1), 1 << force);
        }
        check.due("10 would be", winds(made, 0, 39), 0);
        check.due("a wind that is not blown yet", winds(made, 1, 19), 1023);
        check.due("by 40 OUT", winds(made, 1, 19, 40), 0b1111000000);
        check.due("in its TRAY", winds(Scenes.read("r1,1;w1;l0,1;"), 0, 0), 1023);
        // A wind that is blown in each HOUR, and one in every second.
        check.due("in each", winds(Scenes.sent("r1,99;w5;l0,1;", 40), 0, 3, 6, 9), 2);
        check.due("in every second", winds(Scenes.sent("r1,99;w1;w5;l0,1;", 40), 0, 3, 22, 25), 2);
        // The last of six, in the sixth HOUR.
        check.due("the sixth", winds(Scenes.sent("r1,99;w1;w1;w1;w1;w1;w9;l0,3;", 40), 5, 1, 2, 3, 4, 5, 22), 1 << 5);
    }

    private static void strongs() {
        check.told("STRONGS (1 to 99: how many; the least; NONE).");
        // 35 yards: with 34 OUT by any, with 1 OUT from 34 on.
        tapes(Scenes.sent("r1,7;w9;l0,1;", 34), 99, 1, 34);
        tapes(Scenes.sent("r1,7;w9;l0,1;", 34), 0, NONE, 0);
        tapes(Scenes.sent("r1,7;w9;l0,1;", 33), 98, 2, 33);
        tapes(Scenes.sent("r1,7;w9;l0,1;", 33), 1, 1, 0);
        tapes(Scenes.sent("r1,7;w9;l0,1;", 1), 66, 34, 1);
        tapes(Scenes.sent("r1,7;w9;l0,1;", 1), 33, 1, 0);
        // 139 and 140 yards with 40 OUT: by 99 alone, by none.
        tapes(Scenes.sent("r1,7;w9;t9,23;t9,22;", 40, 40), 1, 99, 40);
        tapes(Scenes.sent("r1,7;w9;t9,22;t9,23;", 40, 40), 0, NONE, 40);
        tapes(Scenes.sent("r1,7;w9;t9,22;t9,23;", 40, 40), 99, 1, 0);
        // It holds in the first HOUR by 10 and more (20 yards, 10 OUT), in the second by 20 and more.
        tapes(Scenes.sent("r1,7;w6;l0,4;", 10), 90, 10, 10);
        tapes(Scenes.sent("r1,7;w6;l0,4;", 10), 10, 10, 10, 0);
        tapes(Scenes.sent("r1,7;w6;l0,4;", 10), 80, 20, 10, 10);
        tapes(Scenes.read("r1,7;b1,1;"), 99, 1, 0, 0);
        // What fitted before is forgotten.
        KiteTrays x = Scenes.sent("r1,7;w6;l0,4;", 10).get();
        Check.fill(x, 0, 0, 10, 9);
        check.due("the least", x.tapes(0, 1, 0, 0, 1), 10);
        check.due("the least of none", x.tapes(0, 1, 0, 1, 1), NONE);
        check.due("how many of none", x.tapes(0, 0, 0, 1, 1), 0);
    }

    private static void noSuchHeight() {
        check.told("of it by which it is so");
        // ITEMS that are no HIGH at all fit nothing, and throw nothing.
        for (int item : new int[] {-1, 41, 127, -128, 32767, -32768, Twins.MOST, Twins.LEAST}) {
            check.due("KINDS of " + item, who(Scenes.steady(1), 0, item), 0);
            check.due("BELLIES of " + item, who(Scenes.steady(1), 1, item), 0);
            check.due("WEIGHTS of " + item, who(Scenes.steady(1), 2, item), 0);
            check.due("the least of " + item, who(Scenes.steady(1), 3, item), NONE);
            check.due("the greatest of " + item, who(Scenes.steady(1), 4, item), NONE);
            check.due("FORCES of " + item, winds(Scenes.steady(1), 0, item), 0);
            tapes(Scenes.steady(1), 0, NONE, item);
        }
        // ROWS of each LANE tell alike; of bytes, 257 is 1.
        for (int lane = 0; lane < 3; lane++) {
            KiteTrays x = Scenes.steady(1).get();
            Check.fill(x, 0, lane, lane == 0 ? 257 : lane == 1 ? 65537 : 1, 2);
            check.due("LANE " + lane, x.who(0, 1, 0, 0, 2), 32);
        }
    }

    private static void whoBad() {
        // PAPER 0 is 1 HIGH behind this HOUR by a WEIGHT of 7 alone; 5 is 10 HIGH; ROW 7 has 0 alone.
        check.told("KINDS (which = 0), BELLIES (1), WEIGHTS (2 how many, 3 the least, 4 the greatest; NONE), n ITEMS of a ROW from i on. BAD: PAPER, which, ROW, n; NULL; PLACE.");
        int[] due = {62, 1023, 60, 1, 60};
        for (int k = 0; k < 5; k++) {
            int which = k;
            twins.lookedWithoutFinding("who(1, " + k + ", ..)", Scenes::busy, x -> x.who(1, which, 7, 0, 1), due[k]);
        }
        twins.bounds("who(v, ..)", Scenes::busy, (x, v) -> x.who(v, 0, 7, 0, 1), 0, 0, 5, 0);
        twins.bounds("who(1, v, ..)", Scenes::busy, (x, v) -> x.who(1, v, 7, 0, 1), 0, 62, 4, 60);
        twins.bounds("who(.., v, ..)", Scenes::busy, (x, v) -> x.who(0, 3, v, 0, 1), 0, 7, 7, 8);
        twins.badOutside("who, n", Scenes::busy, (x, v) -> x.who(0, 0, 0, 0, v), 1, 12);
        twins.badOutside("who, n of a missing ROW", Scenes::busy, (x, v) -> x.who(0, 0, 4, 0, v), 1, 12);
        twins.lookedWithoutFinding("who", Scenes::busy, x -> x.who(0, 3, 0, 0, 1), 7);
    }

    private static void windsBad() {
        check.told("FORCES of a WIND, by how HIGH a PAPER is, likewise. BAD: PAPER, WIND, ROW, n; NULL; PLACE.");
        twins.bounds("winds(v, ..)", Scenes::busy, (x, v) -> x.winds(v, 0, 7, 0, 1), 0, 0, 5, 0);
        twins.bounds("winds(1, v, ..)", Scenes::busy, (x, v) -> x.winds(1, v, 7, 0, 1), 0, 1023, 3, 1023);
        // Down to 1 by a wind of 0 alone; SNAPPED, and so 0 HIGH, by 6 and more.
        twins.bounds("winds(.., v, ..)", Scenes::busy, (x, v) -> x.winds(0, 1, v, 0, 1), 0, 1, 7, 0b1111000000);
        twins.badOutside("winds, n", Scenes::busy, (x, v) -> x.winds(0, 0, 0, 0, v), 1, 12);
        for (int wind : new int[] {-1, 0, 1}) {
            twins.refused("winds of none", Scenes.read("r1,1;b1,1;"), x -> x.winds(0, wind, 0, 0, 1), BAD);
        }
        twins.lookedWithoutFinding("winds", Scenes::busy, x -> x.winds(0, 1, 0, 0, 1), 1);
    }

    private static void tapesBad() {
        check.told("STRONGS: how many (which = 0), the least (1; NONE), likewise. BAD: PAPER, which, ROW, n; NULL; PLACE.");
        twins.bounds("tapes(v, ..)", Scenes::busy, (x, v) -> x.tapes(v, 0, 7, 0, 1), 0, 0, 5, 0);
        twins.bounds("tapes(1, v, ..)", Scenes::busy, (x, v) -> x.tapes(1, v, 7, 0, 1), 0, 99, 1, 1);
        twins.bounds("tapes(.., v, ..)", Scenes::busy, (x, v) -> x.tapes(0, 0, v, 0, 1), 0, 99, 7, 0);
        twins.badOutside("tapes, n", Scenes::busy, (x, v) -> x.tapes(0, 0, 0, 0, v), 1, 12);
        twins.lookedWithoutFinding("tapes", Scenes::busy, x -> x.tapes(0, 0, 0, 0, 1), 99);
    }

    private static void missing() {
        check.told("n; NULL; PLACE. (a ROW that is missing)");
        for (int r : new int[] {4, 5}) {
            for (int n : new int[] {1, 12}) {
                twins.found("who", Scenes::busy, x -> x.who(0, 0, r, 0, n), Twins.MISSING);
                twins.found("winds", Scenes::busy, x -> x.winds(0, 0, r, 0, n), Twins.MISSING);
                twins.found("tapes", Scenes::busy, x -> x.tapes(0, 0, r, 0, n), Twins.MISSING);
            }
        }
    }

    private static void places() {
        check.told("n ITEMS of a ROW from i on");
        // ROW 0 has 5 ITEMS, ROW 7 has 40, ROW 3 none.
        int[][] outside = {{0, -1, 1}, {0, 5, 1}, {0, 4, 2}, {0, 0, 6}, {0, -1, 12}, {0, Twins.MOST, 1}, {0, Twins.MOST, 12},
            {0, Twins.MOST - 11, 12}, {0, Twins.LEAST, 1}, {0, Twins.LEAST, 12}, {7, 40, 1}, {7, 29, 12}, {7, -1, 1}, {3, 0, 1}, {3, -1, 1}};
        for (int[] o : outside) {
            String at = o[2] + " of ROW " + o[0] + " from " + o[1];
            twins.found("who, " + at, Scenes::busy, x -> x.who(1, 0, o[0], o[1], o[2]), Twins.PLACE);
            twins.found("winds, " + at, Scenes::busy, x -> x.winds(1, 0, o[0], o[1], o[2]), Twins.PLACE);
            twins.found("tapes, " + at, Scenes::busy, x -> x.tapes(1, 0, o[0], o[1], o[2]), Twins.PLACE);
        }
        int[][] inside = {{7, 0, 1}, {7, 0, 12}, {7, 28, 12}, {7, 39, 1}};
        for (int[] o : inside) {
            String at = o[2] + " of ROW " + o[0] + " from " + o[1];
            twins.lookedWithoutFinding("who, " + at, Scenes::busy, x -> x.who(1, 0, o[0], o[1], o[2]), 62);
            twins.lookedWithoutFinding("winds, " + at, Scenes::busy, x -> x.winds(1, 0, o[0], o[1], o[2]), 1023);
            twins.lookedWithoutFinding("tapes, " + at, Scenes::busy, x -> x.tapes(1, 0, o[0], o[1], o[2]), 99);
        }
        // The ITEMS are those from i on.
        KiteTrays x = Scenes.steady(1).get();
        Check.fill(x, 0, 0, 9, 9, 1, 2, 9);
        check.due("from 2 on", x.who(0, 1, 0, 2, 2), 32);
        check.due("from 1 on", x.who(0, 1, 0, 1, 2), 0);
        check.due("from 2 on, one more", x.who(0, 1, 0, 2, 3), 0);
        check.due("winds from 2 on", x.winds(0, 0, 0, 2, 2), 2);
        check.due("tapes from 2 on", x.tapes(0, 0, 0, 2, 2), 99);
    }
}
