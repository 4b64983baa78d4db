/** Promises 18 to 33: what is foretold, and images. */
public final class ForetoldTest {
    private static final int BAD = KiteTrays.BAD, STATE = KiteTrays.STATE, NONE = KiteTrays.NONE;
    private static final int MISSING = -1000011, PLACE = -1000012;
    private static final int MOST = Integer.MAX_VALUE, LEAST = Integer.MIN_VALUE;
    private static final String MIXED = "r8,12;w3;w0;w6;w2;b5,7;f8,9;t4,6;l0,8;c2,5;t3,4;";
    private static final Check check = new Check();

    public static void main(String[] args) {
        withoutRoof();
        ahead();
        when();
        pull();
        sends();
        lets();
        light();
        gust();
        quarrels();
        who();
        winds();
        tapes();
        calm();
        drawn();
        images();
        check.end();
    }

    private static void withoutRoof() {
        KiteTrays x = new KiteTrays();
        check.due("policy(-1)", x.policy(-1), STATE);
        check.due("sends(0, 0, 9)", x.sends(0, 0, 9), STATE);
        check.due("quarrels(9)", x.quarrels(9), STATE);
        check.due("drawn(-1, 0, 9)", x.drawn(-1, 0, 9), STATE);
        check.due("image(0)", x.image(0), STATE);
        check.due("image(2)", x.image(2), BAD);
        check.due("who(..)", x.who(0, 0, 0, 0, 1), BAD);
        check.due("lets(..)", x.lets(0, 1, -1), BAD);
        check.due("status()", x.status(), 0);
    }

    private static void ahead() {
        KiteTrays x = Check.roof(MIXED);
        x.send(0, 20);
        int[] high = {0, 8, 1, 20, 20, 20, 13, 0, 0};
        for (int n = 0; n < high.length; n++) {
            check.due("HIGH ahead by " + n, x.ahead(0, n, 0), high[n]);
            check.due("OUT ahead by " + n, x.ahead(0, n, 1), n < 7 ? 20 : 0);
            check.due("CELL ahead by " + n, x.ahead(0, n, 2), n < 7 ? NONE : 10);
            check.due("policy(" + n + ")", x.policy(n), high[n] >= 8 ? 1 : 0);
        }
        check.due("ahead(0, 60, 2)", x.ahead(0, 60, 2), 10);
        check.due("of one in its TRAY", x.ahead(1, 60, 0), 0);
        check.due("of one in its TRAY", x.ahead(1, 60, 1), 0);
        check.due("ahead(0, 61, 0)", x.ahead(0, 61, 0), BAD);
        check.due("ahead(0, -1, 0)", x.ahead(0, -1, 0), BAD);
        check.due("ahead(0, 0, 3)", x.ahead(0, 0, 3), BAD);
        check.due("ahead(0, 0, -1)", x.ahead(0, 0, -1), BAD);
        check.due("ahead(6, 0, 0)", x.ahead(6, 0, 0), BAD);
        check.due("policy(61)", x.policy(61), BAD);
        check.due("policy(-1)", x.policy(-1), BAD);
        check.due("nothing changes", x.count(3), 0);
        check.due("nothing changes", x.paper(0, 3), 0);
        check.due("nothing changes", x.count(6), 1);
    }

    private static void when() {
        KiteTrays x = Check.roof(MIXED);
        x.send(0, 20);
        check.due("when POLICY", x.when(0, 1), 1);
        check.due("when SNAPPED", x.when(0, 2), 7);
        x.hours(1);
        check.due("when POLICY, now", x.when(0, 1), 0);
        x.hours(6);
        check.due("when SNAPPED, now", x.when(0, 2), 0);
        check.due("when POLICY, never", x.when(0, 1), NONE);
        check.due("when(0, 0)", x.when(0, 0), BAD);
        check.due("when(0, 3)", x.when(0, 3), BAD);
        check.due("when(6, 1)", x.when(6, 1), BAD);
        // It is 3 higher behind every sixth HOUR.
        x = Check.roof("r30,99;w5;w5;w5;w5;w5;w8;b1,5;");
        x.send(0, 40);
        check.due("when POLICY, the last", x.when(0, 1), 60);
        x = Check.roof("r31,99;w5;w5;w5;w5;w5;w8;b1,5;");
        x.send(0, 40);
        check.due("when POLICY, too late", x.when(0, 1), NONE);
        check.due("HOURS left of that", x.hours(5), 0);
        check.due("when POLICY, too late yet", x.when(0, 1), NONE);
        x.hours(1);
        check.due("when POLICY", x.when(0, 1), 60);
    }

    private static void pull() {
        KiteTrays x = Check.roof(MIXED);
        check.due("of one in its TRAY", x.pull(0), STATE);
        check.due("pull(6)", x.pull(6), BAD);
        for (int i = 0; i < 6; i++) {
            x.send(i, 40);
        }
        int[] due = {8, 3, 18, 4, 7, 14};
        int[] calm = {-7, -9, -6, -8, -5, -4};
        for (int i = 0; i < 6; i++) {
            check.due("pull(" + i + ")", x.pull(i), due[i]);
        }
        x.blow(0, 0);
        for (int i = 0; i < 6; i++) {
            check.due("pull(" + i + ")", x.pull(i), calm[i]);
        }
    }

    private static void sends() {
        KiteTrays x = Check.roof("r8,12;w3;b5,7;t4,6;t3,4;l0,8;");
        check.due("which", x.sends(1, 20, 0), 7);
        check.due("how many", x.sends(1, 20, 1), 3);
        check.due("which, too low", x.sends(1, 7, 0), 0);
        check.due("how many", x.sends(1, 7, 1), 0);
        check.due("sends(30, 40, 0)", x.sends(30, 40, 0), 11);
        check.due("sends(1, 1, 0)", x.sends(1, 1, 0), 0);
        // Two treaties would lift each other until the first snaps: one of them is as good.
        check.due("which, behind two", x.sends(2, 20, 0), 11);
        x.send(3, 20);
        check.due("what is UP is not sent", x.sends(2, 20, 0), 3);
        check.due("but counts", x.sends(2, 20, 1), 3);
        int[][] wrong = {{0, 1, 0}, {31, 1, 0}, {1, 0, 0}, {1, 41, 0}, {1, 1, 2}, {1, 1, -1}};
        for (int[] w : wrong) {
            check.due("sends, wrong", x.sends(w[0], w[1], w[2]), BAD);
        }
        // Each of the two heavy treaties lifts the first, so one is enough, and that is the lesser.
        x = Check.roof("r5,99;w2;b0,9;t5,10;t1,60;t1,60;");
        x.send(1, 40);
        check.due("the fewest, the least", x.sends(1, 40, 0), 4);
        check.due("how many", x.sends(1, 40, 1), 1);
        check.due("nothing changes", x.stand(0), 2);
        check.due("nothing changes", x.count(6), 1);
    }

    private static void lets() {
        KiteTrays x = Check.roof("r1,3;w3;w9;b5,5;b1,1;");
        check.due("of one in its TRAY", x.lets(0, 1, -1), STATE);
        x.send(0, 5);
        check.due("how HIGH", x.lets(0, 1, -1), 10);
        check.due("the first of several", x.lets(0, 1, 0), 1);
        check.due("not so many", x.lets(0, 1, 1), NONE);
        check.due("not so many", x.lets(0, 1, MOST), NONE);
        check.due("by none, how HIGH", x.lets(0, 2, -1), NONE);
        check.due("by none, the first", x.lets(0, 2, 0), NONE);
        check.due("lets(0, 1, -2)", x.lets(0, 1, -2), BAD);
        check.due("lets(0, 0, 0)", x.lets(0, 0, 0), BAD);
        check.due("lets(0, 5, 0)", x.lets(0, 5, 0), BAD);
        check.due("lets(2, 1, 0)", x.lets(2, 1, 0), BAD);
        check.due("BAD ahead of STATE", x.lets(1, 1, -2), BAD);
        check.due("nothing changes", x.paper(0, 4), 5);
        // As HIGH as 20 yards it is lifted as a bill, and would snap: so it is wound in.
        x = Check.roof("r1,5;w4;f9,14;");
        x.send(0, 20);
        x.hours(5);
        check.due("HIGH", x.paper(0, 3), 20);
        check.due("how HIGH", x.lets(0, 1, -1), 15);
        check.due("wound in", x.lets(0, 1, 0), 3);
        // 15, 19, 23 yards, and with 40 OUT then the tape just holds.
        check.due("how HIGH behind four", x.lets(0, 4, -1), 40);
        int[] row = {3, 1, 2, 2, NONE};
        for (int k = 0; k < 5; k++) {
            check.due("lets(0, 4, " + k + ")", x.lets(0, 4, k), row[k]);
        }
        // OUT is 1 at least, 40 at most by this.
        x = Check.roof("r1,99;w9;b9,1;");
        x.send(0, 38);
        check.due("how HIGH", x.lets(0, 1, -1), 40);
        check.due("by 5", x.lets(0, 1, 0), 1);
        // Wound in by 5 of 25 it would be lifted as a bill yet; by 5 of 24 it is not, and holds.
        x = Check.roof("r1,5;w4;f9,14;");
        x.send(0, 25);
        x.hours(5);
        check.due("HIGH", x.paper(0, 3), 20);
        check.due("by none", x.lets(0, 1, -1), NONE);
        x.let(0, -1);
        check.due("wound in by 5", x.lets(0, 1, -1), 19);
        check.due("wound in by 5", x.lets(0, 1, 0), 3);
        // One that stands at 0 is UP.
        x = Check.roof("r1,1;w1;l0,4;");
        x.send(0, 3);
        check.due("how HIGH", x.lets(0, 4, -1), 0);
        check.due("by 0", x.lets(0, 4, 3), 0);
    }

    private static void light() {
        KiteTrays x = Check.roof(MIXED);
        check.due("of one in its TRAY", x.light(0, 1), NONE);
        x.send(0, 20);
        check.due("light(0, 1)", x.light(0, 1), 7);
        check.due("light(0, 2)", x.light(0, 2), 3);
        check.due("light(0, 6)", x.light(0, 6), 7);
        check.due("it snaps or comes down by any", x.light(0, 7), NONE);
        check.due("light(0, 0)", x.light(0, 0), BAD);
        check.due("light(0, 31)", x.light(0, 31), BAD);
        check.due("light(6, 1)", x.light(6, 1), BAD);
        check.due("nothing changes", x.paper(0, 1), 7);
        x = Check.roof("r1,99;w9;b9,1;");
        x.send(0, 9);
        check.due("the greatest there is", x.light(0, 30), 60);
        x = Check.roof("r1,99;w2;b1,50;");
        x.send(0, 9);
        check.due("the least there is", x.light(0, 1), 1);
    }

    private static void gust() {
        KiteTrays x = Check.roof(MIXED);
        check.due("of one in its TRAY", x.gust(0), STATE);
        check.due("gust(6)", x.gust(6), BAD);
        x.send(0, 20);
        check.due("gust(0)", x.gust(0), 8);
        x = Check.roof("r1,18;b1,60;");
        x.send(0, 20);
        check.due("the greatest there is", x.gust(0), 99);
        x.let(0, 1);
        check.due("none", x.gust(0), NONE);
        // One that is clouded may be lifted by no wind at all.
        x = Check.roof("r1,5;w9;c0,2;");
        x.send(0, 30);
        x.hours(1);
        check.due("HIGH", x.paper(0, 3), 30);
        check.due("gust(0) of a clouded one", x.gust(0), 0);
    }

    private static void quarrels() {
        KiteTrays x = Check.roof("r1,1;w9;b0,1;l0,1;l0,1;l0,1;l0,1;");
        check.due("none", x.quarrels(0), 0);
        check.due("none", x.quarrels(1), NONE);
        check.due("quarrels(2)", x.quarrels(2), BAD);
        check.due("quarrels(-1)", x.quarrels(-1), BAD);
        x.send(2, 3);
        x.send(4, 1);
        x.hours(1);
        check.due("a pair", x.quarrels(0), 1);
        check.due("which", x.quarrels(1), 24);
        x.send(3, 2);
        x.send(1, 3);
        x.hours(1);
        check.due("of three, and one apart", x.quarrels(0), 3);
        check.due("the first", x.quarrels(1), 23);
        x = Check.roof("r1,1;w9;l0,1;l0,1;");
        x.send(0, 3);
        x.send(1, 2);
        x.hours(1);
        check.due("one pair", x.quarrels(0), 1);
        check.due("the first of all", x.quarrels(1), 1);
    }

    private static void who() {
        KiteTrays x = Check.roof("r5,9;w2;w3;b4,6;f5,3;c0,7;");
        x.send(0, 10);
        x.send(1, 11);
        Check.fill(x, 1, 0, 99, 2, 8, 10);
        check.due("KINDS", x.who(0, 0, 1, 1, 3), 58);
        check.due("BELLIES", x.who(0, 1, 1, 1, 3), 16);
        check.due("WEIGHTS", x.who(0, 2, 1, 1, 3), 1);
        check.due("the least", x.who(0, 3, 1, 1, 3), 6);
        check.due("the greatest", x.who(0, 4, 1, 1, 3), 6);
        check.due("a finance bill", x.who(1, 0, 1, 1, 1), 4);
        // 0 yards: all by which it comes down, or snaps.
        Check.fill(x, 2, 2, 0);
        check.due("BELLIES", x.who(0, 1, 2, 0, 1), 0b1111);
        check.due("WEIGHTS", x.who(0, 2, 2, 0, 1), 53);
        check.due("the least", x.who(0, 3, 2, 0, 1), 8);
        check.due("the greatest", x.who(0, 4, 2, 0, 1), 60);
        check.due("of one in its TRAY", x.who(2, 0, 2, 0, 1), 62);
        Check.fill(x, 3, 1, 7, 7);
        check.due("none", x.who(2, 0, 3, 0, 2), 0);
        check.due("none", x.who(2, 2, 3, 0, 2), 0);
        check.due("none", x.who(2, 3, 3, 0, 2), NONE);
        check.due("none", x.who(2, 4, 3, 0, 2), NONE);
        check.due("nothing changes", x.kind(0), 1);
        int[][] wrong = {{3, 0, 1, 0, 1}, {-1, 0, 1, 0, 1}, {0, 5, 1, 0, 1}, {0, -1, 1, 0, 1}, {0, 0, 8, 0, 1},
            {0, 0, -1, 0, 1}, {0, 0, 1, 0, 0}, {0, 0, 1, 0, 13}, {0, 0, 1, 0, -1}, {0, 0, 7, 0, 13}};
        for (int[] w : wrong) {
            check.due("who, wrong", x.who(w[0], w[1], w[2], w[3], w[4]), BAD);
        }
        check.due("a ROW that is missing", x.who(0, 0, 7, 0, 1), MISSING);
        for (int i : new int[] {-1, 4, 2, MOST, LEAST}) {
            check.due("who, outside", x.who(0, 0, 1, i, 3), PLACE);
        }
        x.row(4, 0, 40);
        check.due("twelve HOURS", x.who(2, 0, 4, 28, 12), 62);
        check.due("twelve HOURS, outside", x.who(2, 0, 4, 29, 12), PLACE);
        // A bill that was a treaty would have lifted the other treaty; it tells of itself alone.
        x = Check.roof("r1,99;w2;b3,1;t3,1;");
        x.send(0, 40);
        x.send(1, 40);
        Check.fill(x, 0, 0, 11);
        check.due("a treaty with another", x.who(0, 0, 0, 0, 1), 8);
    }

    private static void winds() {
        KiteTrays x = Check.roof("r5,9;w2;w3;b4,6;f5,3;");
        x.send(0, 10);
        Check.fill(x, 1, 0, 2, 8, 10);
        check.due("FORCES of 0", x.winds(0, 0, 1, 0, 3), 4);
        check.due("FORCES of 1", x.winds(0, 1, 1, 0, 3), 8);
        check.due("FORCES that are not blown yet", x.winds(0, 1, 1, 0, 1), 1023);
        Check.fill(x, 2, 0, 0);
        check.due("FORCES that bring it down, or snap it", x.winds(0, 0, 2, 0, 1), 0b1110000011);
        check.due("nothing changes", x.force(0), 2);
        int[][] wrong = {{2, 0, 1, 0, 1}, {-1, 0, 1, 0, 1}, {0, 2, 1, 0, 1}, {0, -1, 1, 0, 1}, {0, 0, 8, 0, 1},
            {0, 0, -1, 0, 1}, {0, 0, 1, 0, 0}, {0, 0, 1, 0, 13}, {0, 2, 7, 0, 1}};
        for (int[] w : wrong) {
            check.due("winds, wrong", x.winds(w[0], w[1], w[2], w[3], w[4]), BAD);
        }
        check.due("a ROW that is missing", x.winds(0, 0, 7, 0, 1), MISSING);
        for (int i : new int[] {-1, 3, 2, MOST, LEAST}) {
            check.due("winds, outside", x.winds(0, 0, 1, i, 2), PLACE);
        }
    }

    private static void tapes() {
        KiteTrays x = Check.roof("r1,5;w3;b5,5;");
        x.send(0, 5);
        Check.fill(x, 0, 2, 5, 0, 7);
        check.due("by which it holds", x.tapes(0, 0, 0, 0, 1), 95);
        check.due("the least", x.tapes(0, 1, 0, 0, 1), 5);
        check.due("by which it SNAPS", x.tapes(0, 0, 0, 1, 1), 4);
        check.due("the least", x.tapes(0, 1, 0, 1, 1), 1);
        check.due("none", x.tapes(0, 0, 0, 2, 1), 0);
        check.due("none", x.tapes(0, 1, 0, 2, 1), NONE);
        check.due("first so, then so", x.tapes(0, 0, 0, 0, 2), 5);
        check.due("nothing changes", x.stand(4), 5);
        int[][] wrong = {{1, 0, 0, 0, 1}, {-1, 0, 0, 0, 1}, {0, 2, 0, 0, 1}, {0, -1, 0, 0, 1}, {0, 0, 8, 0, 1},
            {0, 0, -1, 0, 1}, {0, 0, 0, 0, 0}, {0, 0, 0, 0, 13}};
        for (int[] w : wrong) {
            check.due("tapes, wrong", x.tapes(w[0], w[1], w[2], w[3], w[4]), BAD);
        }
        check.due("a ROW that is missing", x.tapes(0, 0, 7, 0, 1), MISSING);
        for (int i : new int[] {-1, 3, 2, MOST, LEAST}) {
            check.due("tapes, outside", x.tapes(0, 0, 0, i, 2), PLACE);
        }
    }

    private static void fraction(KiteTrays x, int n, int p, long above, long below) {
        check.due("calm(0, " + n + ", " + p + ", 0)", x.calm(0, n, p, 0), above);
        check.due("calm(0, " + n + ", " + p + ", 1)", x.calm(0, n, p, 1), below);
    }

    private static void calm() {
        KiteTrays x = Check.roof("r8,12;w3;b5,7;");
        fraction(x, 3, 5, 0, 1);
        x.send(0, 20);
        fraction(x, 0, 5, 0, 1);
        fraction(x, 1, 3, 7, 10);
        fraction(x, 1, 0, 1, 1);
        fraction(x, 1, 10, 0, 1);
        fraction(x, 2, 5, 1, 4);
        fraction(x, 2, 4, 9, 25);
        x.hours(1);
        fraction(x, 0, 10, 1, 1);
        // From 8 yards only two calm HOURS bring it below 8 again.
        fraction(x, 2, 4, 21, 25);
        fraction(x, 8, 0, 1, 1);
        check.due("calm(0, 9, 0, 0)", x.calm(0, 9, 0, 0), BAD);
        check.due("calm(0, -1, 0, 0)", x.calm(0, -1, 0, 0), BAD);
        check.due("calm(0, 0, 11, 0)", x.calm(0, 0, 11, 0), BAD);
        check.due("calm(0, 0, -1, 0)", x.calm(0, 0, -1, 0), BAD);
        check.due("calm(0, 0, 0, 2)", x.calm(0, 0, 0, 2), BAD);
        check.due("calm(0, 0, 0, -1)", x.calm(0, 0, 0, -1), BAD);
        check.due("calm(1, 0, 0, 0)", x.calm(1, 0, 0, 0), BAD);
        check.due("nothing changes", x.count(3), 1);
        // Winds are those of their HOURS yet: 2 yards higher, 2 higher, 7 higher.
        x = Check.roof("r9,12;w2;w2;w3;b5,8;");
        x.send(0, 20);
        fraction(x, 3, 5, 1, 8);
        fraction(x, 2, 5, 0, 1);
        // It is POLICY only if no HOUR is calm: 9 by 10, eight times.
        x = Check.roof("r40,99;w5;b1,1;");
        x.send(0, 40);
        x.hours(2);
        fraction(x, 8, 1, 43046721, 100000000);
    }

    private static void drawn() {
        // X: 16807, 282475249, 1622650073, 984943658, 1144108930, 470211272, 101027544.
        KiteTrays x = Check.roof("r8,27;b5,7;l0,8;");
        check.due("drawn(0, 1, 0)", x.drawn(0, 1, 0), 0);
        check.due("drawn(1, 1, 0)", x.drawn(1, 1, 0), 1);
        check.due("drawn(1, 1, 1)", x.drawn(1, 1, 1), 0);
        check.due("drawn(2, 1, 0)", x.drawn(2, 1, 0), 0);
        check.due("drawn(2, 1, 1)", x.drawn(2, 1, 1), 1);
        check.due("drawn(4, 1, 0)", x.drawn(4, 1, 0), 1);
        x = Check.roof("r20,27;b5,7;l0,8;");
        check.due("sent up just now, it is not let out", x.drawn(4, 1, 0), 0);
        check.due("then it is", x.drawn(7, 1, 0), 1);
        check.due("nothing changes", x.stand(0), 0);
        check.due("nothing changes", x.count(3), 0);
        int[][] wrong = {{-1, 1, 0}, {61, 1, 0}, {1, 0, 0}, {1, 1000000, 0}, {1, 1, 2}, {1, 1, -1}, {1, -1, 0}};
        for (int[] w : wrong) {
            check.due("drawn, wrong", x.drawn(w[0], w[1], w[2]), BAD);
        }
    }

    private static void images() {
        KiteTrays x = Check.roof("r5,9;w2;w3;b4,6;f5,3;");
        x.send(0, 10);
        x.hours(1);
        check.due("image(1)", x.image(1), 1);
        check.due("image(0)", x.image(0), 1);
        check.due("image(2)", x.image(2), BAD);
        check.due("image(-1)", x.image(-1), BAD);
        check.due("an IMAGE is no ACT", x.count(6), 2);
        x.weigh(0, 30);
        x.blow(0, 9);
        x.hours(3);
        check.due("image(0) anew", x.image(0), 1);
        Check.read(x, "r1,1;l0,1;");
        check.due("restore(1)", x.restore(1), 1);
        check.due("PAPERS", x.count(1), 2);
        check.due("WINDS", x.count(2), 2);
        check.due("HOUR", x.count(3), 1);
        check.due("HIGH", x.paper(0, 3), 2);
        check.due("OUT", x.paper(0, 4), 10);
        check.due("WEIGHT", x.paper(0, 1), 6);
        check.due("STAND", x.stand(3), 5);
        check.due("STRONG", x.stand(4), 9);
        check.due("FORCE", x.force(1), 2);
        check.due("undo()", x.undo(), STATE);
        check.due("restore(0)", x.restore(0), 1);
        check.due("HOUR", x.count(3), 4);
        check.due("WEIGHT", x.paper(0, 1), 30);
        x.hours(1);
        check.due("an ACT can be undone", x.count(6), 1);
        check.due("restore(1), it is kept yet", x.restore(1), 1);
        check.due("none can be undone", x.undo(), STATE);
        check.due("HOUR", x.count(3), 1);
        check.due("restore(2)", x.restore(2), BAD);
        check.due("restore(-1)", x.restore(-1), BAD);
        x = Check.roof("r1,1;l0,1;");
        x.image(0);
        check.due("restore(1), none was kept", x.restore(1), STATE);
    }
}
