import java.util.function.Supplier;

/** Boundary cases of what is foretold without a ROW: 'Terms' 3, and promises 18 to 26, 30, 31. */
public final class ForetoldEdgesTest {
    private static final int BAD = KiteTrays.BAD, STATE = KiteTrays.STATE, NONE = KiteTrays.NONE;
    private static final Check check = new Check();
    private static final Twins twins = new Twins(check);

    public static void main(String[] args) {
        ahead();
        aheadOfThree();
        whenPolicy();
        whenSnapped();
        whenBad();
        policy();
        policyBad();
        pullOfThisHour();
        pull();
        sends();
        sendsBad();
        sendsMost();
        letsTold();
        lets();
        letsBounds();
        letsOfOut();
        letsNone();
        light();
        lightBounds();
        gust();
        quarrels();
        calm();
        calmBounds();
        years();
        yearsOfX();
        yearsOfForce();
        yearsLetOut();
        yearsSent();
        nothingChanges();
        check.end();
    }

    private static void ahead() {
        check.told("AHEAD by n HOURS (0 to 60) of a PAPER");
        // 1 yard behind each HOUR; then 4 in every sixth.
        twins.bounds("ahead(0, v, 0)", Scenes.steady(1), (x, v) -> x.ahead(0, v, 0), 0, 0, 60, 40);
        Supplier<KiteTrays> sixth = Scenes.sent("r1,99;w1;w1;w1;w1;w1;w2;l0,4;", 40);
        twins.bounds("ahead(0, v, 0)", sixth, (x, v) -> x.ahead(0, v, 0), 0, 0, 60, 40);
        check.due("ahead(0, 59, 0)", sixth.get().ahead(0, 59, 0), 36);
        for (int n = 0; n <= 60; n++) {
            check.due("ahead(0, " + n + ", 0)", Scenes.steady(1).get().ahead(0, n, 0), Math.min(40, n));
        }
        check.told("AHEAD: HIGH (what = 0), OUT (1), CELL (2; NONE). BAD.");
        twins.badOutside("ahead(0, v, 2)", Scenes::busy, (x, v) -> x.ahead(0, v, 2), 0, 60);
        twins.bounds("ahead(0, 0, v)", Scenes::busy, (x, v) -> x.ahead(0, 0, v), 0, 8, 2, NONE);
        twins.bounds("ahead(v, 0, 1)", Scenes::busy, (x, v) -> x.ahead(v, 0, 1), 0, 15, 5, 20);
    }

    private static void aheadOfThree() {
        check.told("HIGH (0 in its TRAY); OUT (0: not UP); CELL (NONE: not SNAPPED).");
        int[][] now = {{8, 15, NONE}, {0, 0, NONE}, {0, 0, 6}, {0, 0, NONE}, {0, 30, NONE}, {14, 20, NONE}};
        // No wind in this HOUR; one more, of 6, SNAPS what is 1 HIGH with 15 OUT? 1 and 23 are not more than 27; 5 is lifted to 20.
        int[][] behindTwo = {{15, 15, NONE}, {0, 0, NONE}, {0, 0, 6}, {0, 0, NONE}, {0, 0, NONE}, {20, 20, NONE}};
        for (int i = 0; i < 6; i++) {
            for (int what = 0; what < 3; what++) {
                int paper = i;
                int of = what;
                twins.looked("ahead(" + i + ", 0, " + what + ")", Scenes::busy, x -> x.ahead(paper, 0, of), now[i][what]);
                twins.looked("ahead(" + i + ", 2, " + what + ")", Scenes::busy, x -> x.ahead(paper, 2, of), behindTwo[i][what]);
            }
        }
        KiteTrays x = Scenes.sent("r1,1;w9;l0,1;", 6).get();
        int[][] snaps = {{0, 6, NONE}, {0, 0, 15}};
        for (int n = 0; n < 2; n++) {
            for (int what = 0; what < 3; what++) {
                check.due("ahead(0, " + n + ", " + what + ")", x.ahead(0, n, what), snaps[n][what]);
            }
        }
        check.due("CELL, for good", x.ahead(0, 60, 2), 15);
    }

    private static void whenPolicy() {
        check.told("WHEN a PAPER is POLICY, is SNAPPED: behind how many HOURS (0 to 60) first; NONE.");
        for (int stand = 1; stand <= 40; stand++) {
            check.due("STAND " + stand, Scenes.steady(stand).get().when(0, 1), stand);
            check.due("now", Scenes.later(Scenes.steady(stand), stand).get().when(0, 1), 0);
            check.due("in the next", Scenes.later(Scenes.steady(stand), stand - 1).get().when(0, 1), 1);
        }
        // 4 yards in every sixth HOUR: 40 behind 60 of them; in every first of six: behind 55.
        check.due("the last", Scenes.sent("r40,99;w1;w1;w1;w1;w1;w2;l0,4;", 40).get().when(0, 1), 60);
        check.due("before the last", Scenes.sent("r40,99;w2;w1;w1;w1;w1;w1;l0,4;", 40).get().when(0, 1), 55);
        // 3 yards in every sixth HOUR: 31 behind 66.
        KiteTrays x = Scenes.sent("r31,99;w5;w5;w5;w5;w5;w8;b1,5;", 40).get();
        check.due("behind 66", x.when(0, 1), NONE);
        x.hours(5);
        check.due("behind 61", x.when(0, 1), NONE);
        x.hours(1);
        check.due("behind 60", x.when(0, 1), 60);
        // It is the first HOUR that counts: 35, 34 yards, then 40 again.
        check.due("the first of several", Scenes.sent("r35,99;w9;w0;l0,1;", 40).get().when(0, 1), 1);
        check.due("of one in its TRAY", Scenes.read(Scenes.MIXED).get().when(0, 1), NONE);
    }

    private static void whenSnapped() {
        check.told("is SNAPPED: behind how many HOURS (0 to 60) first; NONE");
        // 2 yards in one HOUR of six: 20 HIGH behind the tenth; then it is lifted as a bill, by 4, with 20 OUT.
        Supplier<KiteTrays> fifth = Scenes.sent("r1,3;w2;w2;w2;w2;w3;w2;f4,4;", 20);
        check.due("behind 59", fifth.get().ahead(0, 59, 0), 20);
        check.due("the last", fifth.get().when(0, 2), 60);
        check.due("in the next", Scenes.later(fifth, 59).get().when(0, 2), 1);
        check.due("now", Scenes.later(fifth, 60).get().when(0, 2), 0);
        Supplier<KiteTrays> sixth = Scenes.sent("r1,3;w2;w2;w2;w2;w2;w3;f4,4;", 20);
        check.due("behind 61", sixth.get().when(0, 2), NONE);
        check.due("then behind 60", Scenes.later(sixth, 1).get().when(0, 2), 60);
        check.due("STRONG by one more", Scenes.sent("r1,4;w2;w2;w2;w2;w3;w2;f4,4;", 20).get().when(0, 2), NONE);
        check.due("of one in its TRAY", Scenes.read(Scenes.MIXED).get().when(0, 2), NONE);
        check.due("of one that SNAPPED", Scenes.busy().when(2, 2), 0);
        check.due("of one that SNAPPED", Scenes.busy().when(2, 1), NONE);
    }

    private static void whenBad() {
        check.told("WHEN POLICY (how = 1), SNAPPED (2); NONE. BAD.");
        // 8, 1, 15 yards; then 28 of 15 OUT, STRONG 12.
        twins.bounds("when(0, v)", Scenes::busy, (x, v) -> x.when(0, v), 1, 0, 2, 3);
        twins.bounds("when(v, 1)", Scenes::busy, (x, v) -> x.when(v, 1), 0, 0, 5, 0);
    }

    private static void policy() {
        check.told("POLICY behind n HOURS (0 to 60): which (bits).");
        twins.bounds("policy(v)", Scenes.sent("r40,99;w1;w1;w1;w1;w1;w2;l0,4;", 40), (x, v) -> x.policy(v), 0, 0, 60, 1);
        check.due("behind 59", Scenes.sent("r40,99;w1;w1;w1;w1;w1;w2;l0,4;", 40).get().policy(59), 0);
        KiteTrays x = Scenes.sent("r8,99;w9;w0;l0,4;l0,28;l0,29;l0,1;l0,4;l0,35;", 40, 40, 40, 40, 40, 40).get();
        // 32, 8, 7, 35, 32, 1 HIGH; then 28, 0, 0, 34, 28, 0.
        check.due("policy(0)", x.policy(0), 0);
        check.due("policy(1)", x.policy(1), 0b011011);
        check.due("policy(2)", x.policy(2), 0b011001);
    }

    private static void policyBad() {
        check.told("POLICY. BAD; STATE: no ROOF (ahead of BAD).");
        twins.badOutside("policy(v)", Scenes::busy, (x, v) -> x.policy(v), 0, 60);
        twins.looked("policy(0)", Scenes::busy, x -> x.policy(0), 33);
        // 1 yard is left of 8, and 10 of 14, in no wind.
        twins.looked("policy(1)", Scenes::busy, x -> x.policy(1), 32);
        for (int n : new int[] {Twins.LEAST, -1, 0, 60, 61, Twins.MOST}) {
            twins.refused("policy(" + n + ") without a ROOF", Scenes::rows, x -> x.policy(n), STATE);
        }
    }

    private static void pullOfThisHour() {
        check.told("PULL of a PAPER that is UP: RISE in this HOUR.");
        KiteTrays x = Scenes.sent("r1,99;w1;w0;w9;l0,3;", 40).get();
        int[] due = {1, -3, 33};
        for (int hour = 0; hour < 9; hour++) {
            x.send(0, 40);
            check.due("HOUR " + hour, x.pull(0), due[hour % 3]);
            x.hours(1);
        }
    }

    private static void pull() {
        check.told("PULL (may be below 0). BAD; STATE: it is not UP.");
        twins.badOutside("pull(v)", Scenes::busy, (x, v) -> x.pull(v), 0, 5);
        int[] due = {-7, STATE, STATE, STATE, -5, -4};
        for (int i = 0; i < 6; i++) {
            int paper = i;
            twins.looked("pull(" + i + ")", Scenes::busy, x -> x.pull(paper), due[i]);
        }
        check.due("the least", Scenes.sent("r1,1;b0,60;", 1).get().pull(0), -60);
        check.due("none", Scenes.sent("r1,1;w1;l0,4;", 1).get().pull(0), 0);
        check.due("1", Scenes.sent("r1,1;w1;l0,3;", 1).get().pull(0), 1);
        check.due("the greatest", Scenes.sent("r1,1;w9;t9,1;t9,1;", 1, 1).get().pull(0), 161);
    }

    private static void sends() {
        check.told("SEND for n HOURS (1 to 30), m yards (1 to 40)");
        Supplier<KiteTrays> slow = Scenes.read("r30,99;w1;b5,4;");
        twins.bounds("sends(v, 40, 0)", slow, (x, v) -> x.sends(v, 40, 0), 1, 0, 30, 1);
        twins.bounds("sends(v, 40, 1)", slow, (x, v) -> x.sends(v, 40, 1), 1, 0, 30, 1);
        check.due("sends(29, 40, 0)", slow.get().sends(29, 40, 0), 0);
        Supplier<KiteTrays> high = Scenes.read("r40,99;w9;b9,1;");
        twins.bounds("sends(1, v, 0)", high, (x, v) -> x.sends(1, v, 0), 1, 0, 40, 1);
        check.due("sends(1, 39, 0)", high.get().sends(1, 39, 0), 0);
        // STAND 1: m of 1 is enough.
        check.due("sends(1, 1, 0)", Scenes.read("r1,99;w9;b9,1;").get().sends(1, 1, 0), 1);
    }

    private static void sendsBad() {
        check.told("SEND: which (what = 0), how many (1). BAD; STATE: no ROOF (ahead of BAD).");
        Supplier<KiteTrays> second = Scenes.read("r40,99;w9;b0,1;b9,1;");
        twins.bounds("sends(1, 40, v)", second, (x, v) -> x.sends(1, 40, v), 0, 2, 1, 1);
        twins.badOutside("sends(v, 1, 0)", Scenes::busy, (x, v) -> x.sends(v, 1, 0), 1, 30);
        twins.badOutside("sends(1, v, 0)", Scenes::busy, (x, v) -> x.sends(1, v, 0), 1, 40);
        twins.badOutside("sends(1, 1, v)", Scenes::busy, (x, v) -> x.sends(1, 1, v), 0, 1);
        twins.looked("sends(30, 40, 0)", second, x -> x.sends(30, 40, 0), 2);
        twins.refused("sends(0, 0, 2) without a ROOF", Scenes::rows, x -> x.sends(0, 0, 2), STATE);
    }

    private static void sendsMost() {
        check.told("PAPERS in their TRAYS to be sent up now, m OUT each, so that most are POLICY behind them, of several the fewest, of these the least: which (bits); how many are POLICY.");
        KiteTrays x = Scenes.read("r1,99;w9;l0,1;l0,1;l0,1;l0,1;l0,1;l0,1;").get();
        check.due("all", x.sends(1, 40, 0), 63);
        check.due("all", x.sends(1, 40, 1), 6);
        x = Scenes.read("r1,99;l0,1;l0,1;").get();
        check.due("none, by none", x.sends(1, 40, 0), 0);
        check.due("none, by none", x.sends(1, 40, 1), 0);
        // All are UP, or SNAPPED.
        x = Scenes.later(Scenes.sent("r1,1;w9;w0;l0,1;l0,1;", 40, 1), 1).get();
        check.due("none is in its TRAY", x.sends(1, 40, 0), 0);
        check.due("but one is POLICY", x.sends(1, 40, 1), 1);
        // Treaty 1 is UP, and POLICY only with another: 0, 2, 3 are too heavy to be it themselves.
        x = Scenes.read("r5,99;w2;t1,60;t5,10;t1,60;t1,60;").get();
        x.send(1, 40);
        check.due("one of three, the least", x.sends(1, 40, 0), 1);
        check.due("how many", x.sends(1, 40, 1), 1);
        // The least of these is told by its bits: 0 and 3 are 9, 1 and 2 are 6.
        x = Scenes.read("r1,99;w2;t1,3;t1,3;t1,3;t1,3;").get();
        check.due("all four lift each other", x.sends(1, 40, 0), 15);
        x = Scenes.read("r8,99;w2;t1,60;t1,60;t3,4;").get();
        check.due("2 with 0, rather than with 1", x.sends(1, 40, 0), 5);
        check.due("how many", x.sends(1, 40, 1), 1);
        // More is better than fewer; of as many, fewer are better than a lesser number.
        x = Scenes.read("r2,3;w2;t1,60;t1,60;t4,1;t5,2;b1,60;").get();
        check.due("one treaty by itself", x.sends(1, 2, 0), 0);
        x = Scenes.read("r2,6;w2;t1,60;t4,2;").get();
        check.due("the treaty alone holds", x.sends(1, 2, 0), 2);
        // 2 is too heavy; with it, as many are POLICY, but that is no gain.
        x = Scenes.read("r1,99;w9;l0,1;l0,1;l0,60;").get();
        check.due("0 and 1", x.sends(1, 40, 0), 3);
        check.due("how many", x.sends(1, 40, 1), 2);
        // Treaty 0 is POLICY with 1, or with 2; but 2 by itself, and it SNAPS with another: so 2 alone is the fewest, and not the least.
        x = Scenes.read("r8,12;w2;t3,4;t0,60;t9,5;").get();
        check.due("2 alone", x.sends(1, 10, 0), 4);
        check.due("how many", x.sends(1, 10, 1), 1);
        x = Scenes.busy();
        check.due("none more: no wind", x.sends(1, 40, 0), 0);
        check.due("one is POLICY yet", x.sends(1, 40, 1), 1);
    }

    private static void row(KiteTrays x, int n, int high, int... row) {
        check.due("how HIGH behind " + n, x.lets(0, n, -1), high);
        for (int k = 0; k < n; k++) {
            check.due("lets(0, " + n + ", " + k + ")", x.lets(0, n, k), row.length > k ? row[k] : NONE);
        }
        check.due("not so many", x.lets(0, n, n), NONE);
        check.due("not so many", x.lets(0, n, 4), NONE);
        check.due("not so many", x.lets(0, n, Twins.MOST), NONE);
    }

    private static void letsTold() {
        check.told("in each, as it begins, it is let out by 0, by 5, by 10 yards, or wound in by 5 (told as 0, 1, 2, 3;");
        // 35 yards, just 15 above 20 OUT; 3, 6, 11 yards with 1 OUT; 35 yards, just 20 above 15 OUT.
        row(Scenes.sent("r1,15;w9;l0,1;", 20).get(), 1, 30, 2);
        row(Scenes.sent("r1,99;w1;l0,3;", 1).get(), 1, 1, 0);
        row(Scenes.sent("r1,99;w2;l0,2;", 1).get(), 1, 6, 1);
        row(Scenes.sent("r1,99;w3;l0,1;", 1).get(), 1, 11, 2);
        row(Scenes.sent("r1,25;w9;l0,1;", 5).get(), 1, 15, 2);
        row(Scenes.sent("r1,20;w9;l0,1;", 5).get(), 1, 15, 2);
        row(Scenes.sent("r1,19;w9;l0,1;", 5).get(), 1, NONE);
        // Wound in by 5 from 24, a finance bill of 20 HIGH is 19, and is lifted by half: no other row holds.
        row(Scenes.later(Scenes.sent("r1,5;w4;f9,14;", 24), 5).get(), 1, 19, 3);
        // As the HOUR begins: what it is let out by holds in that HOUR already, and LIFT is by how HIGH it is then.
        row(Scenes.sent("r1,25;w9;w1;l0,1;", 1).get(), 2, 14, 2, 1);
    }

    private static void lets() {
        check.told("the row by which it is UP and HIGHEST behind them, of several the first: how HIGH; the k-th");
        // 20 yards in each HOUR, with 5 OUT, and STRONG: the first of several is 0 as long as it may be.
        Supplier<KiteTrays> made = Scenes.sent("r1,99;w6;l0,4;", 5);
        row(made.get(), 1, 15, 2);
        row(made.get(), 2, 20 + 5, 2, 2);
        row(made.get(), 3, 35, 2, 2, 2);
        row(made.get(), 4, 40, 1, 2, 2, 2);
        // 2 yards in each HOUR: 0 for all is as good as any.
        row(Scenes.sent("r1,99;w1;l0,2;", 20).get(), 4, 8, 0, 0, 0, 0);
        // 8 OUT are just enough for 8 yards behind four; of 7, it is let out in the last.
        row(Scenes.sent("r1,99;w1;l0,2;", 8).get(), 4, 8, 0, 0, 0, 0);
        row(Scenes.sent("r1,99;w1;l0,2;", 7).get(), 4, 8, 0, 0, 0, 1);
        // Of as HIGH rows 1 comes ahead of 2: 36 OUT and 5 are 40.
        row(Scenes.sent("r1,99;w9;l0,1;", 31).get(), 1, 35, 1);
        row(Scenes.sent("r1,99;w9;l0,1;", 30).get(), 1, 35, 1);
        row(Scenes.sent("r1,99;w9;l0,1;", 29).get(), 1, 35, 2);
    }

    private static void letsBounds() {
        check.told("LET for a PAPER that is UP, n HOURS (1 to 4)");
        Supplier<KiteTrays> made = Scenes.sent("r1,99;w6;l0,4;", 5);
        twins.bounds("lets(0, v, -1)", made, (x, v) -> x.lets(0, v, -1), 1, 15, 4, 40);
        twins.badOutside("lets(0, v, -1)", Scenes::busy, (x, v) -> x.lets(0, v, -1), 1, 4);
        check.told("LET: how HIGH (k = -1), the k-th (0 on; NONE: not so many); NONE. BAD: k below -1; STATE: it is not UP.");
        twins.badOutside("lets(v, 1, -1)", Scenes::busy, (x, v) -> x.lets(v, 1, -1), 0, 5);
        for (int k : new int[] {-2, -3, Twins.LEAST}) {
            twins.refused("lets(0, 1, " + k + ")", Scenes::busy, x -> x.lets(0, 1, k), BAD);
        }
        twins.looked("k of -1", made, x -> x.lets(0, 1, -1), 15);
        twins.looked("k of 0", made, x -> x.lets(0, 1, 0), 2);
        twins.looked("k of 1, not so many", made, x -> x.lets(0, 1, 1), NONE);
        twins.refused("of one in its TRAY", Scenes::busy, x -> x.lets(1, 1, -1), STATE);
        twins.refused("of one that SNAPPED", Scenes::busy, x -> x.lets(2, 4, 0), STATE);
    }

    private static void letsOfOut() {
        check.told("OUT is 40 at most, 1 at least by this, HIGH no more than that");
        // By 10 from 31 it would be 41: 40 yards are 80 less than STRONG above it.
        for (int out = 31; out <= 40; out++) {
            row(Scenes.sent("r1,99;w9;b9,1;", out).get(), 1, 40, out >= 40 ? 0 : out >= 35 ? 1 : 2);
        }
        // Rise of 80: just STRONG above 40 OUT, one more above 39.
        row(Scenes.sent("r1,40;w9;b9,1;", 38).get(), 1, 40, 1);
        row(Scenes.sent("r1,39;w9;b9,1;", 38).get(), 1, NONE);
        row(Scenes.sent("r1,40;w9;b9,1;", 29).get(), 1, NONE);
        // Wound in from 6 and from 1 to 1 it is UP yet, but not so HIGH.
        row(Scenes.sent("r1,99;w1;l0,4;", 1).get(), 4, 0, 0, 0, 0, 0);
        row(Scenes.sent("r1,99;w1;l0,3;", 1).get(), 1, 1, 0);
        // A finance bill, 10 yards in each HOUR below 20, that SNAPS from there on: it must be 19 at most behind the third. From 5 OUT,
        // wound in to 1 (not to 0), then 6 and 16 it comes to 26 in the fourth; by fives it would be 25.
        row(Scenes.sent("r1,20;w9;f9,30;", 5).get(), 4, 26, 3, 1, 2, 2);
        // A finance bill from 20 yards on is lifted as a bill, and SNAPS: wound in by 5 it is below.
        KiteTrays x = Scenes.later(Scenes.sent("r1,5;w4;f9,14;", 24), 5).get();
        check.due("HIGH", x.paper(0, 3), 20);
        row(x, 1, 19, 3);
        x = Scenes.later(Scenes.sent("r1,5;w4;f9,14;", 25), 5).get();
        row(x, 1, NONE);
    }

    private static void letsNone() {
        check.told("NONE: by none it is UP.");
        row(Scenes.sent("r1,1;w0;l0,1;", 20).get(), 1, NONE);
        row(Scenes.sent("r1,1;w0;l0,1;", 20).get(), 4, NONE);
        // It is UP behind the first HOUR, and down behind the second.
        row(Scenes.sent("r1,99;w2;w0;l0,7;", 20).get(), 1, 1, 0);
        row(Scenes.sent("r1,99;w2;w0;l0,7;", 20).get(), 2, NONE);
        row(Scenes.sent("r1,99;w2;w0;l0,4;", 20).get(), 2, NONE);
        // At 0 yards it is UP: that is none of NONE.
        row(Scenes.sent("r1,99;w1;l0,4;", 20).get(), 4, 0, 0, 0, 0, 0);
        // By all it SNAPS.
        row(Scenes.sent("r1,1;w9;l0,1;", 1).get(), 1, NONE);
    }

    private static void light() {
        check.told("LIGHT for a PAPER, n HOURS (1 to 30): the greatest WEIGHT (1 to 60) by which it is POLICY behind them, all else as it is; NONE.");
        // A LIFT of 81: 21 yards by 60, 22 by 59; of 5: 4 yards by 1, none by more.
        int[][] heavy = {{1, 60}, {21, 60}, {22, 59}, {40, 41}};
        for (int[] h : heavy) {
            check.due("STAND " + h[0], Scenes.sent("r" + h[0] + ",99;w9;b9,1;", 40).get().light(0, 1), h[1]);
        }
        int[][] small = {{1, 4}, {3, 2}, {4, 1}, {5, NONE}};
        for (int[] s : small) {
            check.due("STAND " + s[0], Scenes.sent("r" + s[0] + ",99;w1;b5,9;", 40).get().light(0, 1), s[1]);
        }
        // Lighter than 30 it SNAPS (5 OUT, STRONG 1); 31 is the greatest for 5 yards, and none for 6.
        check.due("it must hold, too", Scenes.sent("r5,1;w9;l0,1;", 5).get().light(0, 1), 31);
        check.due("more than OUT", Scenes.sent("r6,1;w9;l0,1;", 5).get().light(0, 1), NONE);
        check.due("of one in its TRAY", Scenes.busy().light(1, 30), NONE);
        check.due("of one that SNAPPED", Scenes.busy().light(2, 30), NONE);
        // Behind the HOURS alone it counts what it is: POLICY before, and not then.
        check.due("then no more", Scenes.sent("r5,99;w2;w0;l0,1;", 20).get().light(0, 2), 1);
        check.due("then no more", Scenes.sent("r7,99;w2;w0;l0,1;", 20).get().light(0, 2), NONE);
    }

    private static void lightBounds() {
        check.told("LIGHT; NONE. BAD.");
        Supplier<KiteTrays> slow = Scenes.sent("r30,99;w1;b5,9;", 40);
        twins.bounds("light(0, v)", slow, (x, v) -> x.light(0, v), 1, NONE, 30, 4);
        check.due("light(0, 29)", slow.get().light(0, 29), 3);
        twins.badOutside("light(0, v)", Scenes::busy, (x, v) -> x.light(0, v), 1, 30);
        twins.badOutside("light(v, 1)", Scenes::busy, (x, v) -> x.light(v, 1), 0, 5);
        twins.looked("light(0, 30)", slow, x -> x.light(0, 30), 4);
    }

    private static void gust() {
        check.told("GUST for a PAPER that is UP: the least FORCE (0 to 99) of this HOUR by which it SNAPS in it; NONE.");
        // FORCE less 60 is more than 38 by 99, more than 39 by 100.
        check.due("99", Scenes.sent("r1,18;b1,60;", 20).get().gust(0), 99);
        check.due("100", Scenes.sent("r1,18;b1,60;", 21).get().gust(0), NONE);
        check.due("100", Scenes.sent("r1,19;b1,60;", 20).get().gust(0), NONE);
        check.due("no BELLY", Scenes.sent("r1,1;w9;b0,1;", 1).get().gust(0), NONE);
        check.due("1", Scenes.sent("r1,1;b9,1;", 6).get().gust(0), 1);
        check.due("2", Scenes.sent("r1,1;b9,1;", 7).get().gust(0), 2);
        // One that is clouded, 30 HIGH: 29 yards without any wind.
        check.due("0", Scenes.later(Scenes.sent("r1,28;w9;c0,1;", 30), 1).get().gust(0), 0);
        check.due("32 are 31", Scenes.later(Scenes.sent("r1,29;w9;c0,1;", 30), 1).get().gust(0), 8);
        // The other treaty counts, and other WINDS don't.
        check.due("one treaty", Scenes.sent("r1,9;w1;w9;t3,1;t3,1;", 10).get().gust(0), 7);
        check.due("two treaties", Scenes.sent("r1,9;w1;w9;t3,1;t3,1;", 10, 10).get().gust(0), 4);
        check.told("GUST; NONE. BAD; STATE: it is not UP.");
        twins.badOutside("gust(v)", Scenes::busy, (x, v) -> x.gust(v), 0, 5);
        // More than 19 of 8 HIGH, 15 OUT; of 0 HIGH, 30 OUT 42; of 14 HIGH, 20 OUT 18.
        int[] due = {6, STATE, STATE, STATE, 12, 8};
        for (int i = 0; i < 6; i++) {
            int paper = i;
            twins.looked("gust(" + i + ")", Scenes::busy, x -> x.gust(paper), due[i]);
        }
    }

    private static void quarrels() {
        check.told("QUARRELS: pairs of PAPERS that do: how many; the first (10 the lesser, and the other one); NONE.");
        String text = "r1,1;w9;l0,1;l0,1;l0,1;l0,1;l0,1;l0,1;";
        // OUT of each PAPER; how many pairs; the first. The CELL is the number and OUT and 9.
        int[][] outs = {{6, 5, 1, 1, 1, 20}, {6, 1, 4, 1, 1, 2}, {1, 6, 5, 4, 7, 8}, {1, 3, 3, 3, 9, 8}, {20, 19, 18, 1, 1, 1}};
        int[][] due = {{1, 1}, {1, 2}, {3, 12}, {1, 45}, {6, 1}};
        for (int n = 0; n < outs.length; n++) {
            KiteTrays made = Scenes.later(Scenes.sent(text, outs[n]), 1).get();
            check.due("how many of " + n, made.quarrels(0), due[n][0]);
            check.due("the first of " + n, made.quarrels(1), due[n][1]);
        }
        // 4 and 5 alone; 0 and 5 alone; 0 with 3 comes ahead of 1 with 2.
        KiteTrays x = Scenes.later(Scenes.sent(text, 1, 1, 1, 1, 2, 1), 1).get();
        check.due("4 and 5", x.quarrels(1), 45);
        check.due("one pair", x.quarrels(0), 1);
        x = Scenes.later(Scenes.sent(text, 6, 1, 1, 1, 1, 1), 1).get();
        check.due("0 and 5", x.quarrels(1), 5);
        x = Scenes.later(Scenes.sent(text, 4, 10, 9, 1, 1, 1), 1).get();
        check.due("two pairs", x.quarrels(0), 2);
        check.due("0 and 3", x.quarrels(1), 3);
        check.told("QUARRELS: how many (what = 0), the first (1; NONE). BAD; STATE: no ROOF (ahead of BAD).");
        twins.bounds("quarrels(v)", Scenes::busy, (y, v) -> y.quarrels(v), 0, 0, 1, NONE);
        twins.refused("quarrels(2) without a ROOF", Scenes::none, y -> y.quarrels(2), STATE);
        twins.refused("quarrels(0) without a ROOF", Scenes::none, y -> y.quarrels(0), STATE);
    }

    private static void fraction(Supplier<KiteTrays> made, int n, int p, long above, long below) {
        check.due("calm(0, " + n + ", " + p + ", 0)", made.get().calm(0, n, p, 0), above);
        check.due("calm(0, " + n + ", " + p + ", 1)", made.get().calm(0, n, p, 1), below);
    }

    private static void calm() {
        check.told("CALM by p of 10 (0 to 10): each of n HOURS (0 to 8) has no wind (FORCE 0) in p of 10 cases, apart: how likely a PAPER is POLICY behind them: a fraction.");
        // 40 HIGH, STAND 40: POLICY unless the last HOUR is calm; it is lifted by 35 in the others.
        Supplier<KiteTrays> high = Scenes.later(Scenes.sent("r40,99;w9;b9,1;", 40), 1);
        fraction(high, 0, 0, 1, 1);
        fraction(high, 0, 10, 1, 1);
        for (int n = 1; n <= 8; n++) {
            fraction(high, n, 0, 1, 1);
            fraction(high, n, 1, 9, 10);
            fraction(high, n, 5, 1, 2);
            fraction(high, n, 9, 1, 10);
            fraction(high, n, 10, 0, 1);
        }
        // 1 yard in each HOUR with wind, and down without: 8 yards need all eight.
        Supplier<KiteTrays> slow = Scenes.sent("r8,99;w1;b5,4;", 40);
        fraction(slow, 8, 0, 1, 1);
        fraction(slow, 8, 1, 43046721, 100000000);
        fraction(slow, 8, 9, 1, 100000000);
        fraction(slow, 8, 10, 0, 1);
        fraction(slow, 7, 0, 0, 1);
        fraction(Scenes.read(Scenes.MIXED), 8, 5, 0, 1);
        // Winds are those of their HOURS: 2 yards, 2 yards, 7 yards by 2, 2, 3; down by one that is calm.
        Supplier<KiteTrays> three = Scenes.sent("r9,12;w2;w2;w3;b5,8;", 20);
        fraction(three, 2, 5, 0, 1);
        fraction(three, 3, 5, 1, 8);
        Supplier<KiteTrays> first = Scenes.sent("r7,12;w3;w2;b5,8;", 20);
        fraction(first, 1, 3, 7, 10);
        fraction(first, 2, 3, 49, 100);
        // Without WINDS no HOUR has any.
        Supplier<KiteTrays> cloud = Scenes.sent("r1,99;b9,1;", 40);
        fraction(cloud, 1, 0, 0, 1);
    }

    private static void calmBounds() {
        check.told("CALM: above (what = 0), below (1). BAD.");
        Supplier<KiteTrays> high = Scenes.later(Scenes.sent("r40,99;w9;b9,1;b1,1;", 40), 1);
        twins.bounds("calm(0, v, 1, 1)", high, (x, v) -> x.calm(0, v, 1, 1), 0, 1, 8, 10);
        twins.bounds("calm(0, 8, v, 0)", high, (x, v) -> x.calm(0, 8, v, 0), 0, 1, 10, 0);
        twins.bounds("calm(0, 8, 3, v)", high, (x, v) -> x.calm(0, 8, 3, v), 0, 7, 1, 10);
        twins.bounds("calm(v, 0, 3, 0)", high, (x, v) -> x.calm(v, 0, 3, 0), 0, 1, 1, 0);
        twins.badOutside("calm(0, v, 1, 1)", Scenes::busy, (x, v) -> x.calm(0, v, 1, 1), 0, 8);
        twins.badOutside("calm(0, 8, v, 0)", Scenes::busy, (x, v) -> x.calm(0, 8, v, 0), 0, 10);
        twins.badOutside("calm(v, 0, 0, 0)", Scenes::busy, (x, v) -> x.calm(v, 0, 0, 0), 0, 5);
        twins.looked("calm(0, 8, 3, 0)", high, x -> x.calm(0, 8, 3, 0), 7);
    }

    private static void years() {
        check.told("YEARS by a SEED (1 to 999999): how many are POLICY (what = 0), SNAPPED (1).");
        // Behind SEED 1: X 16807, 8 OUT in a wind of 7. Behind 999999: X 1774597664, 25 OUT in a wind of 4.
        Supplier<KiteTrays> made = Scenes.read("r8,99;w1;l0,1;");
        twins.bounds("drawn(1, v, 0)", made, (x, v) -> x.drawn(1, v, 0), 1, 1, 999999, 1);
        check.due("8 OUT", Scenes.read("r9,99;w1;l0,1;").get().drawn(1, 1, 0), 0);
        check.due("15 HIGH", Scenes.read("r15,99;w1;l0,1;").get().drawn(1, 999999, 0), 1);
        check.due("15 HIGH", Scenes.read("r16,99;w1;l0,1;").get().drawn(1, 999999, 0), 0);
        check.due("27 yards, 8 OUT", Scenes.read("r1,19;w1;l0,1;").get().drawn(1, 1, 1), 0);
        check.due("27 yards, 8 OUT", Scenes.read("r1,18;w1;l0,1;").get().drawn(1, 1, 1), 1);
        twins.bounds("drawn(v, 1, 1)", Scenes.read("r1,18;w1;l0,1;"), (x, v) -> x.drawn(v, 1, 1), 0, 0, 60, 1);
        twins.bounds("drawn(1, 1, v)", made, (x, v) -> x.drawn(1, 1, v), 0, 1, 1, 0);
        twins.badOutside("drawn(v, 1, 0)", Scenes::busy, (x, v) -> x.drawn(v, 1, 0), 0, 60);
        twins.badOutside("drawn(1, v, 0)", Scenes::busy, (x, v) -> x.drawn(1, v, 0), 1, 999999);
        twins.badOutside("drawn(1, 1, v)", Scenes::busy, (x, v) -> x.drawn(1, 1, v), 0, 1);
        // None of them: as it is now.
        check.due("drawn(0, 1, 0)", Scenes.busy().drawn(0, 1, 0), 2);
        check.due("drawn(0, 999999, 1)", Scenes.busy().drawn(0, 999999, 1), 1);
    }

    private static void yearsOfX() {
        check.told("YEARS of n HOURS (0 to 60) by a SEED (X at first): ahead of each X becomes the rest of (X times 16807) by 2147483647");
        // All HOURS, by the Model, which has X from numbers without a bound.
        String[] texts = {Scenes.MIXED, "r9,20;b5,7;l0,8;c2,5;t3,4;t5,6;", "r20,60;f9,20;c0,9;", "r1,99;l0,4;"};
        for (String text : texts) {
            Model model = new Model();
            for (char letter : text.toCharArray()) {
                model.feed(letter);
            }
            model.roof();
            for (int seed : new int[] {1, 2, 127773, 127774, 999998, 999999}) {
                KiteTrays x = Check.roof(text);
                for (int n = 0; n <= 60; n++) {
                    check.due("drawn(" + n + ", " + seed + ", 0) of " + text, x.drawn(n, seed, 0), model.drawn(n, seed, 0));
                    check.due("drawn(" + n + ", " + seed + ", 1) of " + text, x.drawn(n, seed, 1), model.drawn(n, seed, 1));
                }
            }
        }
    }

    private static void yearsOfForce() {
        check.told("then the HOUR, with the rest of X by 10 for its FORCE: how many are POLICY then; how many are SNAPPED then.");
        // One HOUR of one leaflet: 4 times FORCE less 1, OUT at most; STRONG 10 above OUT.
        for (int seed = 999900; seed <= 999999; seed++) {
            long first = seed * 16807L % 2147483647L;
            long rise = 4 * (first % 10) - 1;
            long out = first % 40 + 1;
            boolean snaps = rise > out + 10;
            check.due("SNAPPED by " + seed, Scenes.read("r1,10;w9;l0,1;").get().drawn(1, seed, 1), snaps ? 1 : 0);
            for (int stand : new int[] {1, 7, 11, 20, 35}) {
                boolean isPolicy = !snaps && Math.min(rise, out) >= stand;
                check.due("STAND " + stand + " by " + seed, Scenes.read("r" + stand + ",10;w9;l0,1;").get().drawn(1, seed, 0), isPolicy ? 1 : 0);
            }
        }
    }

    private static void yearsLetOut() {
        check.told("if it is UP (not sent up just now), and X by 2 leaves 0, it is let out by 5 (OUT 40 at most)");
        // SEED 34: X 571438, then 1014223878: 39 OUT, 39 HIGH; 40 OUT then, 78 yards are 38 above.
        check.due("38 above", Scenes.read("r1,38;b5,1;").get().drawn(2, 34, 1), 0);
        check.due("39 above, if it were not let out", Scenes.read("r40,38;b5,1;").get().drawn(2, 34, 0), 1);
        check.due("34 above, if it were 44", Scenes.read("r1,37;b5,1;").get().drawn(2, 34, 1), 1);
        // SEED 999999: X 1774597664, then 1410049312: 25 OUT, 23 HIGH; 30 OUT then, 34 yards are 4 above.
        check.due("4 above", Scenes.read("r30,4;b6,1;").get().drawn(2, 999999, 0), 1);
        check.due("30 HIGH", Scenes.read("r31,4;b6,1;").get().drawn(2, 999999, 0), 0);
        check.due("more than 3", Scenes.read("r1,3;b6,1;").get().drawn(2, 999999, 1), 1);
        // Sent up just now, by an X that leaves 0: 25 OUT, and not 30.
        check.due("25 OUT", Scenes.read("r25,99;b9,1;").get().drawn(1, 999999, 0), 1);
        check.due("25 OUT", Scenes.read("r26,99;b9,1;").get().drawn(1, 999999, 0), 0);
        // SEED 1: X 16807, then 282475249, which leaves 1: 8 OUT as before.
        check.due("8 OUT", Scenes.read("r8,99;l0,1;").get().drawn(2, 1, 0), 1);
        check.due("8 OUT", Scenes.read("r9,99;l0,1;").get().drawn(2, 1, 0), 0);
    }

    private static void yearsSent() {
        check.told("the PAPER that is the rest of X by how many there are is sent up with the rest of X by 40 and 1 OUT, if it is in its TRAY");
        // SEED 999999: X 1774597664, by 6 it leaves 2.
        check.due("2 is sent up", Scenes.read("r25,99;b0,1;b0,1;b9,1;b0,1;b0,1;b0,1;").get().drawn(1, 999999, 0), 1);
        check.due("the others are not", Scenes.read("r25,99;b9,1;b9,1;b0,1;b9,1;b9,1;b9,1;").get().drawn(1, 999999, 0), 0);
        // By 1 it leaves 0 always; one that SNAPPED is not sent up again.
        Supplier<KiteTrays> snapped = Scenes.later(Scenes.sent("r1,1;w9;l0,1;", 1), 1);
        for (int seed : new int[] {1, 2, 34, 999999}) {
            check.due("SNAPPED for good", snapped.get().drawn(60, seed, 1), 1);
            check.due("SNAPPED for good", snapped.get().drawn(60, seed, 0), 0);
        }
        // One that is UP with 3 OUT keeps them but for being let out by 5.
        check.due("8 OUT", Scenes.sent("r8,99;b9,1;", 3).get().drawn(1, 999999, 0), 1);
        check.due("8 OUT", Scenes.sent("r9,99;b9,1;", 3).get().drawn(1, 999999, 0), 0);
        // SEED 45: X 756315: 36 OUT, in a wind of 5.
        check.due("20 yards", Scenes.read("r20,99;b4,1;").get().drawn(1, 45, 0), 0);
        check.due("19 yards", Scenes.read("r19,99;b4,1;").get().drawn(1, 45, 0), 1);
        check.due("44 yards, 36 OUT", Scenes.read("r36,99;b9,1;").get().drawn(1, 45, 0), 1);
        check.due("44 yards, 36 OUT", Scenes.read("r37,99;b9,1;").get().drawn(1, 45, 0), 0);
        // X by a product of more than 32 bits: 999999 times 16807 is 16806983193.
        check.due("35 yards, 25 OUT", Scenes.read("r1,9;b9,1;").get().drawn(1, 999999, 1), 1);
        check.due("35 yards, 25 OUT", Scenes.read("r1,10;b9,1;").get().drawn(1, 999999, 1), 0);
    }

    private static void nothingChanges() {
        check.told("FORETOLD (nothing changes).");
        twins.unchanged("ahead", Scenes::busy, x -> x.ahead(0, 60, 2));
        twins.unchanged("when", Scenes::busy, x -> x.when(1, 2));
        twins.unchanged("policy", Scenes::busy, x -> x.policy(60));
        twins.unchanged("pull", Scenes::busy, x -> x.pull(0));
        twins.unchanged("sends", Scenes::busy, x -> x.sends(30, 40, 0));
        twins.unchanged("sends", Scenes::busy, x -> x.sends(1, 1, 1));
        twins.unchanged("lets", Scenes::busy, x -> x.lets(0, 4, -1));
        twins.unchanged("lets", Scenes::busy, x -> x.lets(5, 1, 0));
        twins.unchanged("light", Scenes::busy, x -> x.light(0, 30));
        twins.unchanged("gust", Scenes::busy, x -> x.gust(0));
        twins.unchanged("quarrels", Scenes::busy, x -> x.quarrels(0));
        twins.unchanged("who", Scenes::busy, x -> x.who(0, 0, 7, 0, 12));
        twins.unchanged("who", Scenes::busy, x -> x.who(0, 4, 7, 0, 12));
        twins.unchanged("winds", Scenes::busy, x -> x.winds(0, 0, 7, 0, 12));
        twins.unchanged("tapes", Scenes::busy, x -> x.tapes(0, 0, 7, 0, 12));
        twins.unchanged("calm", Scenes::busy, x -> x.calm(0, 8, 5, 0));
        twins.unchanged("drawn", Scenes::busy, x -> x.drawn(60, 999999, 0));
    }
}
