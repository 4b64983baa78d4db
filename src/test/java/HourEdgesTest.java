import java.util.function.Supplier;

/** Boundary cases of 'Terms' 2 but ACTS: LIFT, an HOUR, what SNAPS and where it lands, POLICY, QUARRELS. */
public final class HourEdgesTest {
    private static final int BAD = KiteTrays.BAD, STATE = KiteTrays.STATE, NONE = KiteTrays.NONE;
    private static final int TRAY = 0, UP = 1, SNAPPED = 2;
    private static final Check check = new Check();
    private static final Twins twins = new Twins(check);

    public static void main(String[] args) {
        waysToBe();
        bill();
        finance();
        treaties();
        anotherTreaty();
        leaflet();
        clouded();
        upAsItBegins();
        asAllAreThen();
        riseAboveNone();
        outAtMost();
        snaps();
        snapsAtExtremes();
        cells();
        forGood();
        riseBelowNone();
        riseOfNone();
        hourIsOneMore();
        policy();
        quarrels();
        check.end();
    }

    private static void is(String when, KiteTrays x, int paper, int how, int high, int out, int cell) {
        check.due(when + ": how it is", x.paper(paper, 2), how);
        check.due(when + ": HIGH", x.paper(paper, 3), high);
        check.due(when + ": OUT", x.paper(paper, 4), out);
        check.due(when + ": CELL", x.paper(paper, 5), cell);
    }

    private static void waysToBe() {
        check.told("A PAPER is in its TRAY, UP (HIGH so many yards, 0 to 40, with so many OUT, 1 to 40), or has SNAPPED (in a CELL, 0 to 15, for good).");
        KiteTrays x = Scenes.read("r1,1;w9;l0,34;l0,1;l0,36;").get();
        is("at first", x, 0, TRAY, 0, 0, NONE);
        x.send(0, 1);
        is("sent up", x, 0, UP, 0, 1, NONE);
        x.send(1, 6);
        x.send(2, 40);
        x.hours(1);
        is("1 HIGH", x, 0, UP, 1, 1, NONE);
        is("SNAPPED", x, 1, SNAPPED, 0, 0, 0);
        is("0 HIGH", x, 2, UP, 0, 40, NONE);
        x = Scenes.later(Scenes.steady(40), 40).get();
        is("40 HIGH", x, 0, UP, 40, 40, NONE);
        x.hours(24);
        is("40 HIGH", x, 0, UP, 40, 40, NONE);
    }

    /** What it is lifted by: PULL, and its WEIGHT of 1. */
    private static int lift(String papers, int force) {
        return Scenes.sent("r1,99;w" + force + ";" + papers, 40).get().pull(0) + 1;
    }

    private static void bill() {
        check.told("LIFT in a FORCE of wind: a bill BELLY times FORCE");
        for (int belly = 0; belly <= 9; belly++) {
            for (int force = 0; force <= 9; force++) {
                check.due("b" + belly + " in " + force, lift("b" + belly + ",1;", force), belly * force);
            }
        }
    }

    private static void finance() {
        check.told("a finance bill half of that (cut), but as much as a bill from 20 yards HIGH on");
        for (int belly = 0; belly <= 9; belly++) {
            for (int force = 0; force <= 9; force++) {
                check.due("f" + belly + " in " + force, lift("f" + belly + ",1;", force), belly * force / 2);
            }
        }
        // 17 less 9 below 20 yards, 35 less 9 from there on.
        Supplier<KiteTrays> at24 = Scenes.later(Scenes.sent("r1,99;w5;f7,9;", 40), 3);
        int[][] due = {{24, 26}, {21, 26}, {20, 26}, {19, 8}, {18, 8}, {1, 8}};
        for (int[] d : due) {
            KiteTrays x = at24.get();
            x.let(0, d[0] - 40);
            check.due("HIGH", x.paper(0, 3), d[0]);
            check.due("pull at " + d[0], x.pull(0), d[1]);
        }
        // In an HOUR, too: 12 and 8 are 20, then 26 more.
        KiteTrays x = Scenes.sent("r1,99;w5;f7,13;", 40).get();
        int[] highs = {4, 8, 12, 16, 20, 40};
        for (int high : highs) {
            x.hours(1);
            check.due("HIGH", x.paper(0, 3), high);
        }
    }

    private static void treaties() {
        check.told("a treaty as a bill, twice if there is another treaty UP");
        for (int belly = 0; belly <= 9; belly++) {
            for (int force = 0; force <= 9; force++) {
                check.due("t" + belly + " in " + force, lift("t" + belly + ",1;", force), belly * force);
                KiteTrays x = Scenes.sent("r1,99;w" + force + ";t" + belly + ",1;t0,1;", 40, 40).get();
                check.due("two of them", x.pull(0) + 1, 2 * belly * force);
                check.due("the other", x.pull(1) + 1, 0);
            }
        }
    }

    private static void anotherTreaty() {
        check.told("twice if there is another treaty UP");
        KiteTrays x = Scenes.read("r1,1;w2;t3,1;t3,1;t3,1;b3,1;l0,1;c0,1;").get();
        x.send(0, 40);
        check.due("others in their TRAYS", x.pull(0), 5);
        x.send(3, 40);
        x.send(4, 40);
        x.send(5, 40);
        check.due("others that are none", x.pull(0), 5);
        x.send(2, 1);
        check.due("one more", x.pull(0), 11);
        x.send(1, 40);
        check.due("two more are as one", x.pull(0), 11);
        check.due("each of them", x.pull(1), 11);
        check.due("a bill beside them", x.pull(3), 5);
        x.undo();
        x.hours(1);
        check.due("the other SNAPPED", x.paper(2, 2), SNAPPED);
        check.due("one that SNAPPED is not UP", x.pull(0), 5);
    }

    private static void leaflet() {
        check.told("a leaflet 4 times FORCE");
        for (int force = 0; force <= 9; force++) {
            check.due("l0 in " + force, lift("l0,1;", force), 4 * force);
            check.due("l9 in " + force, lift("l9,1;", force), 4 * force);
        }
    }

    private static void clouded() {
        check.told("one that is clouded as a leaflet, but 30 at least from 30 yards HIGH on");
        for (int force = 0; force <= 9; force++) {
            check.due("c0 in " + force, lift("c0,1;", force), 4 * force);
            check.due("c9 in " + force, lift("c9,1;", force), 4 * force);
            for (int high : new int[] {1, 29, 30, 31, 35}) {
                KiteTrays x = Scenes.later(Scenes.sent("r1,99;w9;c0,1;", 40), 1).get();
                x.let(0, high - 40);
                x.blow(0, force);
                check.due("HIGH", x.paper(0, 3), high);
                check.due(high + " HIGH in " + force, x.pull(0) + 1, high >= 30 ? Math.max(30, 4 * force) : 4 * force);
            }
        }
        // A leaflet has no such gift.
        KiteTrays x = Scenes.later(Scenes.sent("r1,99;w9;w0;l0,1;", 40), 1).get();
        check.due("HIGH", x.paper(0, 3), 35);
        check.due("pull", x.pull(0), -1);
    }

    private static void upAsItBegins() {
        check.told("An HOUR, for all PAPERS that are UP as it begins");
        KiteTrays x = Scenes.read("r1,99;w9;l0,1;l0,1;").get();
        x.send(1, 40);
        x.hours(1);
        is("in its TRAY", x, 0, TRAY, 0, 0, NONE);
        is("UP", x, 1, UP, 35, 40, NONE);
        x = Scenes.read("r1,99;w9;l0,1;").get();
        x.hours(24);
        is("none is UP", x, 0, TRAY, 0, 0, NONE);
        check.due("HOUR", x.count(3), 24);
    }

    private static void asAllAreThen() {
        check.told("by how all are then: RISE is LIFT less WEIGHT.");
        // One treaty SNAPS in the HOUR in which it lifts the other: whichever comes first.
        for (int snaps = 0; snaps < 2; snaps++) {
            KiteTrays x = Scenes.read("r1,1;w2;t3,1;t3,1;").get();
            x.send(snaps, 1);
            x.send(1 - snaps, 40);
            x.hours(1);
            check.due("one SNAPS", x.paper(snaps, 2), SNAPPED);
            is("the other", x, 1 - snaps, UP, 11, 40, NONE);
            x.hours(1);
            is("then by itself", x, 1 - snaps, UP, 16, 40, NONE);
        }
        // One comes down in the HOUR in which it lifts the other.
        for (int down = 0; down < 2; down++) {
            String heavy = "t0,60;";
            String light = "t3,1;";
            KiteTrays x = Scenes.sent("r1,1;w2;" + (down == 0 ? heavy + light : light + heavy), 40, 40).get();
            x.hours(1);
            is("one comes down", x, down, TRAY, 0, 0, NONE);
            is("the other", x, 1 - down, UP, 11, 40, NONE);
        }
    }

    private static void riseAboveNone() {
        check.told("If it is above 0, it is so much HIGHER, but OUT at most");
        KiteTrays x = Scenes.sent("r1,99;w1;l0,3;", 40).get();
        check.due("pull", x.pull(0), 1);
        x.hours(1);
        is("by 1", x, 0, UP, 1, 40, NONE);
        x.hours(1);
        is("by 1 more", x, 0, UP, 2, 40, NONE);
    }

    private static void outAtMost() {
        check.told("so much HIGHER, but OUT at most");
        // 10 yards.
        int[][] due = {{1, 1}, {9, 9}, {10, 10}, {11, 10}, {40, 10}};
        for (int[] d : due) {
            KiteTrays x = Scenes.sent("r1,99;w3;l0,2;", d[0]).get();
            x.hours(1);
            is("10 yards, " + d[0] + " OUT", x, 0, UP, d[1], d[0], NONE);
        }
        KiteTrays x = Scenes.sent("r1,99;w3;l0,2;", 20).get();
        x.hours(2);
        is("just OUT", x, 0, UP, 20, 20, NONE);
        x.hours(1);
        is("no more", x, 0, UP, 20, 20, NONE);
    }

    private static void snaps() {
        check.told("but if HIGH and RISE together are more than STRONG above OUT, it SNAPS");
        // 20 yards in each HOUR.
        for (int out = 1; out <= 40; out++) {
            int strong = 20 - out;
            if (strong >= 1) {
                KiteTrays x = Scenes.sent("r1," + strong + ";w6;l0,4;", out).get();
                x.hours(1);
                is("just STRONG above " + out, x, 0, UP, out, out, NONE);
            }
            if (strong >= 2) {
                KiteTrays x = Scenes.sent("r1," + (strong - 1) + ";w6;l0,4;", out).get();
                x.hours(1);
                is("one more above " + out, x, 0, SNAPPED, 0, 0, (out + 6) % 16);
            }
        }
        // From 20 HIGH with 21 OUT: 40 is 19 above OUT.
        KiteTrays x = Scenes.sent("r1,19;w6;l0,4;", 21).get();
        x.hours(2);
        is("just STRONG above OUT", x, 0, UP, 21, 21, NONE);
        x = Scenes.sent("r1,18;w6;l0,4;", 21).get();
        x.hours(1);
        is("not yet", x, 0, UP, 20, 21, NONE);
        x.hours(1);
        is("one more", x, 0, SNAPPED, 0, 0, 11);
    }

    private static void snapsAtExtremes() {
        check.told("more than STRONG above OUT");
        // 162 less WEIGHT: 139, 140 yards, 40 OUT, STRONG 99.
        KiteTrays x = Scenes.sent("r1,99;w9;t9,23;t9,22;", 40, 40).get();
        x.hours(1);
        is("139", x, 0, UP, 40, 40, NONE);
        is("140", x, 1, SNAPPED, 0, 0, (1 + 40 + 9) % 16);
        // 36 less WEIGHT: 2, 3 yards, 1 OUT, STRONG 1.
        x = Scenes.sent("r1,1;w9;l0,34;l0,33;", 1, 1).get();
        x.hours(1);
        is("2", x, 0, UP, 1, 1, NONE);
        is("3", x, 1, SNAPPED, 0, 0, 11);
        // The greatest RISE there is: 161.
        x = Scenes.sent("r1,99;w9;t9,1;t9,1;", 40, 1).get();
        x.hours(1);
        is("161", x, 0, SNAPPED, 0, 0, 1);
        is("161", x, 1, SNAPPED, 0, 0, 11);
    }

    private static void cells() {
        check.told("its CELL is its number and OUT and FORCE, by 16 left over");
        // All SNAP: 35 yards in a wind of 9, STRONG 1.
        for (int out = 1; out <= 33; out++) {
            KiteTrays x = Scenes.sent("r1,1;w9;l0,1;l0,1;l0,1;l0,1;l0,1;l0,1;", out, out, out, out, out, out).get();
            x.hours(1);
            for (int i = 0; i < 6; i++) {
                is("PAPER " + i + ", " + out + " OUT", x, i, SNAPPED, 0, 0, (i + out + 9) % 16);
            }
        }
        // Of FORCE 1: 4 yards less 1, 1 OUT. 0, 1, 1 are 2; the FORCE is that of the HOUR.
        KiteTrays x = Scenes.sent("r1,1;w1;w9;l0,1;", 1).get();
        x.hours(1);
        is("FORCE 1", x, 0, SNAPPED, 0, 0, 2);
        // FORCE 0: one that is clouded, 30 HIGH and OUT.
        x = Scenes.sent("r1,5;w9;w0;c0,1;", 30).get();
        x.hours(2);
        is("FORCE 0", x, 0, SNAPPED, 0, 0, 14);
    }

    private static void forGood() {
        check.told("has SNAPPED (in a CELL, 0 to 15, for good)");
        Supplier<KiteTrays> snapped = Scenes.later(Scenes.sent("r1,1;w9;w0;l0,1;l0,1;", 1), 1);
        KiteTrays x = snapped.get();
        for (int n = 0; n < 24; n++) {
            x.hours(24);
            is("behind more HOURS", x, 0, SNAPPED, 0, 0, 10);
        }
        twins.refused("send", snapped, y -> y.send(0, 1), STATE);
        twins.refused("let out", snapped, y -> y.let(0, 1), STATE);
        twins.refused("wound in", snapped, y -> y.let(0, -1), STATE);
        check.due("heavier", x.weigh(0, 60), 1);
        is("heavier", x, 0, SNAPPED, 0, 0, 10);
    }

    private static void riseBelowNone() {
        check.told("If RISE is below 0, it is so much lower; if that is 0 or below, it is in its TRAY again.");
        // 5 HIGH, 8 OUT, then no wind: it is lower by its WEIGHT.
        int[][] due = {{1, UP, 4}, {4, UP, 1}, {5, TRAY, 0}, {6, TRAY, 0}, {60, TRAY, 0}};
        for (int[] d : due) {
            KiteTrays x = Scenes.later(Scenes.sent("r1,99;w2;w0;l0,3;", 8), 1).get();
            x.weigh(0, d[0]);
            x.hours(1);
            is("lower by " + d[0], x, 0, d[1], d[2], d[1] == UP ? 8 : 0, NONE);
        }
        KiteTrays x = Scenes.sent("r1,99;w0;l0,1;", 8).get();
        x.hours(1);
        is("from 0 HIGH by 1", x, 0, TRAY, 0, 0, NONE);
        check.due("it can be sent up again", x.send(0, 3), 1);
        is("sent up again", x, 0, UP, 0, 3, NONE);
    }

    private static void riseOfNone() {
        check.told("(If RISE is 0, it stays.)");
        KiteTrays x = Scenes.sent("r1,99;w1;l0,4;", 8).get();
        x.hours(24);
        is("at 0 HIGH", x, 0, UP, 0, 8, NONE);
        x = Scenes.later(Scenes.sent("r1,99;w2;w1;l0,3;", 8), 1).get();
        x.weigh(0, 4);
        x.hours(1);
        is("at 5 HIGH", x, 0, UP, 5, 8, NONE);
        x = Scenes.later(Scenes.sent("r1,1;w2;w1;l0,1;", 6), 1).get();
        x.weigh(0, 4);
        x.hours(1);
        is("with all OUT", x, 0, UP, 6, 6, NONE);
    }

    private static void hourIsOneMore() {
        check.told("HOUR is 1 more.");
        KiteTrays x = Scenes.read("r1,1;w3;w4;b1,1;").get();
        for (int hour = 0; hour < 9; hour++) {
            check.due("HOUR", x.count(3), hour);
            check.due("its FORCE", x.force(0), hour % 2 == 0 ? 3 : 4);
            x.hours(1);
        }
    }

    private static void policy() {
        check.told("POLICY: PAPERS that are UP, STAND or more HIGH.");
        for (int stand = 1; stand <= 40; stand++) {
            KiteTrays x = Scenes.later(Scenes.steady(stand), stand - 1).get();
            check.due("one less than STAND " + stand, x.stand(1), 0);
            check.due("one less", x.paper(0, 6), 0);
            check.due("just STAND", x.hours(1), 1);
            check.due("just STAND", x.stand(1), 1);
            check.due("just STAND", x.paper(0, 6), 1);
        }
        KiteTrays x = Scenes.later(Scenes.steady(1), 40).get();
        check.due("more than STAND", x.stand(1), 1);
        // Neither in its TRAY nor SNAPPED.
        x = Scenes.sent("r1,1;w9;l0,1;", 1).get();
        check.due("SNAPPED", x.hours(1), 0);
        check.due("SNAPPED", x.paper(0, 6), 0);
        x = Scenes.later(Scenes.steady(3), 3).get();
        x.let(0, -38);
        check.due("wound in below STAND", x.stand(1), 0);
    }

    private static void quarrels() {
        check.told("LAW elsewhere: those that SNAPPED; two of one CELL QUARREL.");
        // In a wind of 9, STRONG 1: the CELL is the number and OUT and 9.
        String text = "r1,1;w9;l0,1;l0,1;l0,1;l0,1;l0,1;l0,1;";
        KiteTrays x = Scenes.later(Scenes.sent(text, 6, 5, 4, 3, 2, 1), 1).get();
        check.due("all in one CELL", x.quarrels(0), 15);
        check.due("the first", x.quarrels(1), 1);
        x = Scenes.later(Scenes.sent(text, 1, 1, 1, 1, 1, 1), 1).get();
        check.due("each in its own", x.quarrels(0), 0);
        check.due("the first", x.quarrels(1), NONE);
        // CELLS that are one, by 16 left over.
        x = Scenes.later(Scenes.sent(text, 18, 1), 1).get();
        check.due("27 and 11", x.quarrels(0), 1);
        x = Scenes.later(Scenes.sent(text, 17, 1), 1).get();
        check.due("26 and 11", x.quarrels(0), 0);
        x = Scenes.later(Scenes.sent(text, 19, 1), 1).get();
        check.due("28 and 11", x.quarrels(0), 0);
        x = Scenes.later(Scenes.sent(text, 17, 16, 31), 1).get();
        check.due("three of one CELL", x.quarrels(0), 3);
        // Those that are UP or in their TRAYS have none.
        x = Scenes.read(text).get();
        check.due("in their TRAYS", x.quarrels(0), 0);
        x = Scenes.sent(text, 6, 5, 4, 3, 2, 1).get();
        check.due("UP", x.quarrels(0), 0);
        check.due("UP", x.quarrels(1), NONE);
    }
}
