import java.util.function.Supplier;

/** Boundary cases of ACTS: what 'Terms' 2 says of them, and promises 9 to 17. */
public final class ActsEdgesTest {
    private static final int BAD = KiteTrays.BAD, STATE = KiteTrays.STATE, FULL = KiteTrays.FULL, NONE = KiteTrays.NONE;
    private static final Check check = new Check();
    private static final Twins twins = new Twins(check);

    public static void main(String[] args) {
        keptAtMost();
        hoursAreActs();
        eachCanBeUndone();
        letsAndHigh();
        undoNone();
        hours();
        hoursFull();
        hoursWithoutRoof();
        send();
        sendState();
        let();
        letState();
        weigh();
        blow();
        paper();
        force();
        stand();
        refusedIsNoAct();
        check.end();
    }

    private static void keptAtMost() {
        check.told("ACTS (24 at most are kept, of more the oldest is forgotten; each can be undone, the latest first)");
        for (int acts : new int[] {1, 23, 24, 25, 26, 48, 49, 100}) {
            KiteTrays x = Scenes.read("r1,1;w3;w0;b4,60;").get();
            for (int n = 1; n <= acts; n++) {
                x.weigh(0, n % 50 + 1);
            }
            int kept = Math.min(24, acts);
            check.due("count(6) behind " + acts, x.count(6), kept);
            for (int left = kept - 1; left >= 0; left--) {
                check.due("undo()", x.undo(), left);
                int behind = acts - kept + left;
                check.due("WEIGHT behind " + behind, x.paper(0, 1), behind == 0 ? 60 : behind % 50 + 1);
            }
            check.due("undo() of none", x.undo(), STATE);
        }
        // New ACTS behind some that were undone.
        KiteTrays x = Scenes.read("r1,1;w3;w0;b4,60;").get();
        for (int n = 1; n <= 24; n++) {
            x.weigh(0, n);
        }
        for (int n = 0; n < 10; n++) {
            x.undo();
        }
        check.due("count(6)", x.count(6), 14);
        for (int n = 0; n < 11; n++) {
            x.weigh(0, 30 + n);
        }
        check.due("count(6)", x.count(6), 24);
        for (int n = 9; n >= 0; n--) {
            x.undo();
            check.due("WEIGHT", x.paper(0, 1), 30 + n);
        }
        x.undo();
        check.due("WEIGHT", x.paper(0, 1), 14);
        for (int n = 0; n < 13; n++) {
            x.undo();
        }
        check.due("the first was forgotten", x.paper(0, 1), 1);
        check.due("undo() of none", x.undo(), STATE);
    }

    private static void hoursAreActs() {
        check.told("n HOURS (1 to 24), an ACT each: POLICY then (bits).");
        KiteTrays x = Scenes.steady(1).get();
        check.due("the send", x.count(6), 1);
        x.hours(23);
        check.due("23 HOURS and the send", x.count(6), 24);
        x.hours(1);
        check.due("24 HOURS, the send is forgotten", x.count(6), 24);
        for (int left = 23; left >= 0; left--) {
            check.due("undo()", x.undo(), left);
            check.due("HOUR", x.count(3), left);
            check.due("HIGH", x.paper(0, 3), left);
        }
        check.due("undo()", x.undo(), STATE);
        check.due("it is UP yet", x.stand(0), 1);
    }

    private static void eachCanBeUndone() {
        check.told("an HOUR; a PAPER is sent up (HIGH 0, so many OUT); one is let out, wound in (OUT more, less, 1 to 40; HIGH no more than that); WEIGHT of one is another; FORCE of a WIND is.");
        undoes("an HOUR", x -> x.hours(1));
        undoes("a PAPER is sent up", x -> x.send(1, 40));
        undoes("one is let out", x -> x.let(0, 25));
        undoes("one is wound in", x -> x.let(0, -14));
        undoes("WEIGHT of one is another", x -> x.weigh(2, 60));
        undoes("FORCE of a WIND is", x -> x.blow(0, 9));
        undoes("WEIGHT that it has", x -> x.weigh(0, 7));
        undoes("FORCE that it has", x -> x.blow(0, 3));
    }

    /** An ACT and undo() together change nothing: 9 can be undone, then 8, as before. */
    private static void undoes(String act, Twins.Call by) {
        KiteTrays x = Scenes.busy();
        by.on(x);
        check.due(act + ": count(6)", x.count(6), 9);
        check.due(act + ": status() is none of its", x.status(), 3);
        twins.looked(act + ", undone", Scenes::busy, y -> {
            by.on(y);
            return y.undo();
        }, 8);
    }

    private static void letsAndHigh() {
        check.told("one is let out, wound in (OUT more, less, 1 to 40; HIGH no more than that)");
        // 8 HIGH, 15 OUT.
        int[][] due = {{1, 16, 8}, {25, 40, 8}, {-1, 14, 8}, {-7, 8, 8}, {-8, 7, 7}, {-14, 1, 1}};
        for (int[] d : due) {
            KiteTrays x = Scenes.busy();
            check.due("let(0, " + d[0] + ")", x.let(0, d[0]), d[1]);
            check.due("OUT", x.paper(0, 4), d[1]);
            check.due("HIGH", x.paper(0, 3), d[2]);
            check.due("it is POLICY", x.paper(0, 6), d[2] >= 8 ? 1 : 0);
        }
        KiteTrays x = Scenes.read("r1,99;w9;l0,1;").get();
        check.due("send", x.send(0, 40), 1);
        check.due("HIGH of one sent up", x.paper(0, 3), 0);
        check.due("OUT of one sent up", x.paper(0, 4), 40);
    }

    private static void undoNone() {
        check.told("The latest ACT is undone: how many can be undone yet. STATE: none.");
        twins.refused("undo() of a new object", Scenes::none, x -> x.undo(), STATE);
        twins.refused("undo() of a ROOF just read", Scenes.read(Scenes.MIXED), x -> x.undo(), STATE);
        Supplier<KiteTrays> allUndone = () -> {
            KiteTrays x = Scenes.busy();
            for (int n = 0; n < 8; n++) {
                x.undo();
            }
            return x;
        };
        check.due("HOUR", allUndone.get().count(3), 0);
        twins.refused("undo() behind all", allUndone, x -> x.undo(), STATE);
        Supplier<KiteTrays> restored = () -> {
            KiteTrays x = Scenes.busy();
            x.restore(0);
            return x;
        };
        twins.refused("undo() behind restore()", restored, x -> x.undo(), STATE);
    }

    private static void hours() {
        check.told("n HOURS (1 to 24)");
        twins.bounds("hours(v)", Scenes.steady(24), (x, v) -> x.hours(v), 1, 0, 24, 1);
        twins.badOutside("hours(v)", Scenes::busy, (x, v) -> x.hours(v), 1, 24);
        KiteTrays x = Scenes.steady(24).get();
        x.hours(24);
        check.due("HIGH", x.paper(0, 3), 24);
        check.due("HOUR", x.count(3), 24);
        x = Scenes.busy();
        check.due("hours(1)", x.hours(1), 32);
        check.due("HOUR", x.count(3), 2);
    }

    private static void hoursFull() {
        check.told("FULL: HOUR would be above 999.");
        for (int before : new int[] {975, 976, 998, 999}) {
            for (int n : new int[] {1, 2, 23, 24}) {
                Supplier<KiteTrays> made = Scenes.later(Scenes.read(Scenes.MIXED), before);
                if (before + n > 999) {
                    twins.refused("HOUR " + before + ": hours(" + n + ")", made, x -> x.hours(n), FULL);
                } else {
                    KiteTrays x = made.get();
                    check.due("HOUR " + before + ": hours(" + n + ")", x.hours(n), 0);
                    check.due("HOUR", x.count(3), before + n);
                }
            }
        }
        // What is foretold goes further: HOUR 999 is the wind 3, 1001 the wind 1.
        KiteTrays x = Scenes.lastHour();
        check.due("force(0)", x.force(0), 2);
        check.due("force(2)", x.force(2), 0);
        check.due("send", x.send(0, 20), 1);
        check.due("ahead by 2: 3 yards, and 8", x.ahead(0, 2, 0), 11);
        check.due("undo()", x.undo(), 23);
        check.due("undo()", x.undo(), 22);
        check.due("hours(1)", x.hours(1), 0);
        check.due("hours(1)", x.hours(1), FULL);
    }

    private static void hoursWithoutRoof() {
        check.told("BAD; STATE: no ROOF (ahead of BAD); FULL: HOUR would be above 999.");
        for (int n : new int[] {Twins.LEAST, -1, 0, 1, 24, 25, Twins.MOST}) {
            twins.refused("hours(" + n + ")", Scenes::rows, x -> x.hours(n), STATE);
        }
    }

    private static void send() {
        check.told("Sent up (OUT 1 to 40): PAPERS that are UP (bits).");
        twins.bounds("send(1, v)", Scenes::busy, (x, v) -> x.send(1, v), 1, 51, 40, 51);
        twins.bounds("send(v, 9)", Scenes.read(Scenes.MIXED), (x, v) -> x.send(v, 9), 0, 1, 5, 32);
        twins.bounds("send(v, 9) of two", Scenes.read("r1,1;b1,1;b1,1;"), (x, v) -> x.send(v, 9), 0, 1, 1, 2);
        for (int out : new int[] {1, 40}) {
            KiteTrays x = Scenes.busy();
            x.send(1, out);
            check.due("OUT", x.paper(1, 4), out);
            check.due("HIGH", x.paper(1, 3), 0);
            check.due("how it is", x.paper(1, 2), 1);
        }
    }

    private static void sendState() {
        check.told("BAD; STATE: it is not in its TRAY.");
        twins.refused("of one that is UP, 0 HIGH", Scenes::busy, x -> x.send(4, 30), STATE);
        twins.refused("of one that is UP", Scenes::busy, x -> x.send(0, 1), STATE);
        twins.refused("of one that SNAPPED", Scenes::busy, x -> x.send(2, 1), STATE);
        KiteTrays x = Scenes.busy();
        x.hours(1);
        check.due("of one that came down", x.send(4, 1), 49);
    }

    private static void let() {
        check.told("Let out by n yards (1 to 40), wound in (-40 to -1): OUT then.");
        for (int n : new int[] {0, 41, -41, Twins.MOST, Twins.LEAST}) {
            twins.refused("let(0, " + n + ")", Scenes::busy, x -> x.let(0, n), BAD);
            twins.refused("let(1, " + n + ") of one in its TRAY", Scenes::busy, x -> x.let(1, n), BAD);
        }
        // By 40 there is no OUT from which it could be: so that is STATE, and no BAD.
        for (int n : new int[] {40, -40}) {
            twins.refused("let(0, " + n + ")", Scenes::busy, x -> x.let(0, n), STATE);
        }
        check.due("by 39", Scenes.sent("r1,1;b1,1;", 1).get().let(0, 39), 40);
        check.due("by -39", Scenes.sent("r1,1;b1,1;", 40).get().let(0, -39), 1);
        check.due("by 1", Scenes.sent("r1,1;b1,1;", 1).get().let(0, 1), 2);
        check.due("by -1", Scenes.sent("r1,1;b1,1;", 2).get().let(0, -1), 1);
        twins.bounds("let(v, 1)", Scenes.sent(Scenes.MIXED, 1, 2, 3, 4, 5, 6), (x, v) -> x.let(v, 1), 0, 2, 5, 7);
    }

    private static void letState() {
        check.told("STATE: it is not UP, or OUT would not be 1 to 40.");
        twins.refused("of one in its TRAY", Scenes::busy, x -> x.let(1, 1), STATE);
        twins.refused("of one that SNAPPED", Scenes::busy, x -> x.let(2, 1), STATE);
        for (int out = 1; out <= 40; out++) {
            Supplier<KiteTrays> made = Scenes.sent("r1,1;b1,1;", out);
            int most = 40 - out;
            int least = 1 - out;
            if (most > 0) {
                check.due(out + " OUT, to 40", made.get().let(0, most), 40);
            }
            if (least < 0) {
                check.due(out + " OUT, to 1", made.get().let(0, least), 1);
            }
            twins.refused(out + " OUT, to 41", made, x -> x.let(0, most + 1), STATE);
            twins.refused(out + " OUT, to 0", made, x -> x.let(0, least - 1), STATE);
        }
    }

    private static void weigh() {
        check.told("WEIGHT (1 to 60): what it was. BAD.");
        twins.bounds("weigh(1, v)", Scenes::busy, (x, v) -> x.weigh(1, v), 1, 10, 60, 10);
        twins.bounds("weigh(v, 1)", Scenes::busy, (x, v) -> x.weigh(v, 1), 0, 7, 5, 4);
        twins.badOutside("weigh(0, v) without a ROOF", Scenes::none, (x, v) -> x.weigh(0, v), 1, 60);
        KiteTrays x = Scenes.busy();
        check.due("of one that SNAPPED", x.weigh(2, 60), 6);
        check.due("then", x.paper(2, 1), 60);
        check.due("of one that is UP", x.weigh(0, 1), 7);
        check.due("then", x.paper(0, 1), 1);
        check.due("of one in its TRAY", x.weigh(3, 1), 8);
        check.due("then", x.paper(3, 1), 1);
        check.due("count(6)", x.count(6), 11);
    }

    private static void blow() {
        check.told("FORCE (0 to 9) of a WIND: what it was. BAD.");
        twins.bounds("blow(2, v)", Scenes::busy, (x, v) -> x.blow(2, v), 0, 6, 9, 6);
        twins.bounds("blow(v, 1)", Scenes::busy, (x, v) -> x.blow(v, 1), 0, 3, 3, 4);
        twins.bounds("blow(v, 1) of six", Scenes.read("r1,1;w9;w8;w7;w6;w5;w4;b1,1;"), (x, v) -> x.blow(v, 1), 0, 9, 5, 4);
        for (int wind : new int[] {-1, 0, 1}) {
            twins.refused("blow(" + wind + ", 1) of none", Scenes.read("r1,1;b1,1;"), x -> x.blow(wind, 1), BAD);
        }
        KiteTrays x = Scenes.busy();
        x.blow(1, 9);
        check.due("FORCE of this HOUR", x.force(0), 9);
        check.due("FORCE four on", x.force(4), 9);
        check.due("FORCE of the others", x.force(1), 6);
    }

    private static void paper() {
        check.told("Of a PAPER: 0 BELLY, 1 WEIGHT, 2 how it is (0 in its TRAY, 1 UP, 2 SNAPPED), 3 HIGH (0: not UP), 4 OUT (0: not UP), 5 CELL (NONE), 6 whether it is POLICY (1, 0). BAD.");
        int[][] due = {{5, 7, 1, 8, 15, NONE, 1}, {8, 10, 0, 0, 0, NONE, 0}, {4, 6, 2, 0, 0, 6, 0}, {0, 8, 0, 0, 0, NONE, 0},
            {2, 5, 1, 0, 30, NONE, 0}, {3, 4, 1, 14, 20, NONE, 1}};
        for (int i = 0; i < 6; i++) {
            for (int what = 0; what < 7; what++) {
                int paper = i;
                int of = what;
                twins.looked("paper(" + i + ", " + what + ")", Scenes::busy, x -> x.paper(paper, of), due[i][what]);
            }
        }
        twins.bounds("paper(0, v)", Scenes::busy, (x, v) -> x.paper(0, v), 0, 5, 6, 1);
        twins.bounds("paper(v, 0)", Scenes::busy, (x, v) -> x.paper(v, 0), 0, 5, 5, 3);
    }

    private static void force() {
        check.told("FORCE of the HOUR that is n on (0 to 60).");
        twins.bounds("force(v)", Scenes::busy, (x, v) -> x.force(v), 0, 0, 60, 0);
        twins.bounds("force(v)", Scenes.read(Scenes.MIXED), (x, v) -> x.force(v), 0, 3, 60, 3);
        twins.bounds("force(v) without WINDS", Scenes.read("r1,1;b1,1;"), (x, v) -> x.force(v), 0, 0, 60, 0);
        for (int n = 0; n <= 60; n++) {
            check.due("force(" + n + ")", Scenes.busy().force(n), new int[] {0, 6, 4, 3}[n % 4]);
        }
        twins.looked("force(1)", Scenes::busy, x -> x.force(1), 6);
    }

    private static void stand() {
        check.told("0 what is UP (bits), 1 POLICY (bits), 2 SNAPPED (bits), 3 STAND, 4 STRONG.");
        int[] due = {49, 33, 4, 8, 12};
        for (int what = 0; what < 5; what++) {
            int of = what;
            twins.looked("stand(" + what + ")", Scenes::busy, x -> x.stand(of), due[what]);
        }
        twins.bounds("stand(v)", Scenes::busy, (x, v) -> x.stand(v), 0, 49, 4, 12);
    }

    private static void refusedIsNoAct() {
        check.told("What is refused, or found, changes nothing but status().");
        // 24 ACTS are kept: one that is refused forgets none.
        Supplier<KiteTrays> full = () -> {
            KiteTrays x = Scenes.busy();
            x.hours(16);
            return x;
        };
        check.due("count(6)", full.get().count(6), 24);
        twins.refused("hours(0)", full, x -> x.hours(0), BAD);
        twins.refused("send(2, 1)", full, x -> x.send(2, 1), STATE);
        twins.refused("send(1, 0)", full, x -> x.send(1, 0), BAD);
        twins.refused("let(1, 1)", full, x -> x.let(1, 1), STATE);
        twins.refused("let(0, 0)", full, x -> x.let(0, 0), BAD);
        twins.refused("weigh(0, 61)", full, x -> x.weigh(0, 61), BAD);
        twins.refused("blow(0, 10)", full, x -> x.blow(0, 10), BAD);
        twins.refused("image(2)", full, x -> x.image(2), BAD);
        twins.refused("restore(1)", full, x -> x.restore(1), STATE);
        twins.refused("feed(256)", full, x -> x.feed(256), BAD);
    }
}
