/** Promises 10 to 17: HOURS, papers sent up, let out, weighed, other winds, and how all is then. */
public final class DoneTest {
    private static final int BAD = KiteTrays.BAD, STATE = KiteTrays.STATE, FULL = KiteTrays.FULL, NONE = KiteTrays.NONE;
    private static final int MOST = Integer.MAX_VALUE, LEAST = Integer.MIN_VALUE;
    private static final String MIXED = "r8,12;w3;w0;w6;w2;b5,7;f8,9;t4,6;l0,8;c2,5;t3,4;";
    private static final Check check = new Check();

    public static void main(String[] args) {
        withoutRoof();
        bill();
        snapsAtItsEdge();
        finance();
        treaties();
        cloudedAndLeaflets();
        comesDown();
        hours();
        sends();
        lets();
        weighsAndBlows();
        stands();
        check.end();
    }

    private static void withoutRoof() {
        KiteTrays x = new KiteTrays();
        check.due("hours(0)", x.hours(0), STATE);
        check.due("force(-1)", x.force(-1), STATE);
        check.due("stand(9)", x.stand(9), STATE);
        check.due("send(0, 1)", x.send(0, 1), BAD);
        check.due("let(0, 1)", x.let(0, 1), BAD);
        check.due("weigh(0, 1)", x.weigh(0, 1), BAD);
        check.due("blow(0, 1)", x.blow(0, 1), BAD);
    }

    private static void bill() {
        KiteTrays x = Check.roof(MIXED);
        x.send(0, 20);
        int[] high = {8, 1, 20, 20, 20, 13, 0};
        int[] policy = {1, 0, 1, 1, 1, 1, 0};
        for (int h = 0; h < high.length; h++) {
            check.due("hours(1)", x.hours(1), policy[h]);
            check.due("HIGH behind " + (h + 1), x.paper(0, 3), high[h]);
            check.due("is it POLICY", x.paper(0, 6), policy[h]);
            check.due("HOUR", x.count(3), h + 1);
        }
        check.due("SNAPPED", x.paper(0, 2), 2);
        check.due("OUT", x.paper(0, 4), 0);
        check.due("CELL", x.paper(0, 5), 10);
        x.hours(24);
        check.due("SNAPPED for good", x.paper(0, 5), 10);
        check.due("send of what SNAPPED", x.send(0, 1), STATE);
        check.due("let of what SNAPPED", x.let(0, 1), STATE);
    }

    private static void snapsAtItsEdge() {
        KiteTrays x = Check.roof("r1,5;w3;b5,5;b5,5;b5,5;");
        x.send(1, 5);
        x.send(2, 4);
        check.due("hours(1)", x.hours(1), 2);
        check.due("HIGH and RISE are just STRONG above OUT", x.paper(1, 3), 5);
        check.due("one more", x.paper(2, 2), 2);
        check.due("CELL", x.paper(2, 5), 9);
        check.due("one in its TRAY stays there", x.paper(0, 2), 0);
        x = Check.roof("r1,1;w9;l0,1;l0,1;");
        x.send(1, 10);
        x.hours(1);
        check.due("CELL, by 16", x.paper(1, 5), 4);
    }

    private static void finance() {
        KiteTrays x = Check.roof("r1,99;w3;f7,5;f7,6;");
        x.send(0, 40);
        x.send(1, 40);
        int[] first = {5, 10, 15, 20, 36, 40};
        int[] second = {4, 8, 12, 16, 20, 35};
        for (int h = 0; h < first.length; h++) {
            x.hours(1);
            check.due("HIGH of 0", x.paper(0, 3), first[h]);
            check.due("HIGH of 1", x.paper(1, 3), second[h]);
        }
        x.let(0, -21);
        check.due("below 20 yards", x.pull(0), 5);
        x.let(1, -20);
        check.due("from 20 yards on", x.pull(1), 15);
    }

    private static void treaties() {
        KiteTrays x = Check.roof("r1,1;w2;t9,1;t6,20;b9,1;");
        x.send(2, 40);
        x.send(1, 40);
        check.due("pull of one treaty", x.pull(1), -8);
        x.send(0, 1);
        check.due("pull of two", x.pull(1), 4);
        check.due("pull of a bill beside treaties", x.pull(2), 17);
        x.hours(1);
        check.due("the first SNAPS", x.paper(0, 5), 3);
        check.due("the other was lifted by both", x.paper(1, 3), 4);
        x.hours(1);
        check.due("then by itself alone", x.paper(1, 2), 0);
    }

    private static void cloudedAndLeaflets() {
        KiteTrays x = Check.roof("r1,99;w9;w0;w8;c0,5;c9,5;l9,5;");
        x.send(0, 30);
        x.send(1, 29);
        x.send(2, 40);
        check.due("pull of a leaflet", x.pull(2), 31);
        check.due("pull of one that is clouded", x.pull(1), 31);
        x.hours(1);
        check.due("from 30 yards on", x.pull(0), 25);
        check.due("below", x.pull(1), -5);
        check.due("a leaflet", x.pull(2), -5);
        x.hours(1);
        check.due("HIGH", x.paper(0, 3), 30);
        check.due("HIGH", x.paper(1, 3), 24);
        check.due("more than 30", x.pull(0), 27);
    }

    private static void comesDown() {
        KiteTrays x = Check.roof("r1,99;w3;w0;l0,6;l0,12;l0,5;");
        x.send(0, 9);
        x.send(1, 9);
        x.send(2, 9);
        check.due("hours(1)", x.hours(1), 5);
        check.due("RISE 0: it stays UP", x.paper(1, 2), 1);
        check.due("HIGH", x.paper(1, 3), 0);
        check.due("OUT", x.paper(1, 4), 9);
        check.due("hours(1)", x.hours(1), 4);
        check.due("down to 0", x.paper(0, 2), 0);
        check.due("OUT", x.paper(0, 4), 0);
        check.due("below 0", x.paper(1, 2), 0);
        check.due("HIGH", x.paper(2, 3), 2);
        check.due("sent up again", x.send(0, 3), 5);
    }

    private static void hours() {
        KiteTrays x = Check.roof(MIXED);
        check.due("hours(0)", x.hours(0), BAD);
        check.due("hours(25)", x.hours(25), BAD);
        check.due("hours(-1)", x.hours(-1), BAD);
        for (int i = 0; i < 41; i++) {
            check.due("hours(24)", x.hours(24), 0);
        }
        check.due("HOUR", x.count(3), 984);
        check.due("hours(16)", x.hours(16), FULL);
        check.due("hours(25), BAD ahead of FULL", x.hours(25), BAD);
        check.due("HOUR", x.count(3), 984);
        check.due("hours(15)", x.hours(15), 0);
        check.due("hours(1)", x.hours(1), FULL);
        check.due("HOUR", x.count(3), 999);
        check.due("FORCE is foretold yet", x.force(1), 3);
        check.due("undo()", x.undo(), 23);
        check.due("hours(1)", x.hours(1), 0);
    }

    private static void sends() {
        KiteTrays x = Check.roof(MIXED);
        check.due("send(2, 1)", x.send(2, 1), 4);
        check.due("send(0, 40)", x.send(0, 40), 5);
        check.due("HIGH", x.paper(0, 3), 0);
        check.due("OUT", x.paper(0, 4), 40);
        check.due("of one that is UP", x.send(0, 40), STATE);
        check.due("BAD ahead of STATE", x.send(0, 41), BAD);
        check.due("send(1, 0)", x.send(1, 0), BAD);
        check.due("send(1, 41)", x.send(1, 41), BAD);
        check.due("send(6, 1)", x.send(6, 1), BAD);
        check.due("send(-1, 1)", x.send(-1, 1), BAD);
        check.due("count(4)", x.count(4), 2);
        check.due("count(6)", x.count(6), 2);
    }

    private static void lets() {
        KiteTrays x = Check.roof(MIXED);
        check.due("of one in its TRAY", x.let(0, 1), STATE);
        x.send(0, 20);
        check.due("let(0, 0)", x.let(0, 0), BAD);
        check.due("let(0, 41)", x.let(0, 41), BAD);
        check.due("let(0, -41)", x.let(0, -41), BAD);
        check.due("let(0, MOST)", x.let(0, MOST), BAD);
        check.due("let(0, LEAST)", x.let(0, LEAST), BAD);
        check.due("let(6, 1)", x.let(6, 1), BAD);
        check.due("let(0, 21)", x.let(0, 21), STATE);
        check.due("let(0, -20)", x.let(0, -20), STATE);
        check.due("let(0, 20)", x.let(0, 20), 40);
        x.hours(1);
        check.due("let(0, -32)", x.let(0, -32), 8);
        check.due("HIGH", x.paper(0, 3), 8);
        check.due("let(0, -1)", x.let(0, -1), 7);
        check.due("HIGH no more than OUT", x.paper(0, 3), 7);
        check.due("it is no POLICY then", x.stand(1), 0);
        check.due("let(0, 40), OUT would be 47", x.let(0, 40), STATE);
        check.due("let(0, -6)", x.let(0, -6), 1);
        check.due("HIGH", x.paper(0, 3), 1);
    }

    private static void weighsAndBlows() {
        KiteTrays x = Check.roof(MIXED);
        check.due("weigh(0, 60)", x.weigh(0, 60), 7);
        check.due("weigh(0, 1)", x.weigh(0, 1), 60);
        check.due("WEIGHT", x.paper(0, 1), 1);
        check.due("weigh(0, 0)", x.weigh(0, 0), BAD);
        check.due("weigh(0, 61)", x.weigh(0, 61), BAD);
        check.due("weigh(6, 1)", x.weigh(6, 1), BAD);
        check.due("weigh(-1, 1)", x.weigh(-1, 1), BAD);
        check.due("blow(3, 9)", x.blow(3, 9), 2);
        check.due("blow(3, 0)", x.blow(3, 0), 9);
        check.due("blow(3, 10)", x.blow(3, 10), BAD);
        check.due("blow(3, -1)", x.blow(3, -1), BAD);
        check.due("blow(4, 1)", x.blow(4, 1), BAD);
        check.due("blow(-1, 1)", x.blow(-1, 1), BAD);
        check.due("force(3)", x.force(3), 0);
        check.due("force(7)", x.force(7), 0);
        check.due("count(6)", x.count(6), 4);
        x = Check.roof("r1,1;b1,1;");
        check.due("blow without WINDS", x.blow(0, 1), BAD);
        x = Check.roof("r1,1;w9;l0,1;");
        x.send(0, 1);
        x.hours(1);
        check.due("weigh of what SNAPPED", x.weigh(0, 2), 1);
    }

    private static void stands() {
        KiteTrays x = Check.roof(MIXED);
        int[] forces = {3, 0, 6, 2};
        for (int n = 0; n <= 60; n++) {
            check.due("force(" + n + ")", x.force(n), forces[n % 4]);
        }
        check.due("force(61)", x.force(61), BAD);
        check.due("force(-1)", x.force(-1), BAD);
        x.hours(3);
        check.due("force(0)", x.force(0), 2);
        check.due("stand(-1)", x.stand(-1), BAD);
        check.due("stand(5)", x.stand(5), BAD);
        check.due("stand(3)", x.stand(3), 8);
        check.due("stand(4)", x.stand(4), 12);
        check.due("paper(0, -1)", x.paper(0, -1), BAD);
        check.due("paper(0, 7)", x.paper(0, 7), BAD);
        check.due("paper(6, 0)", x.paper(6, 0), BAD);
        check.due("paper(-1, 0)", x.paper(-1, 0), BAD);
        x = Check.roof("r3,1;w9;w1;l0,1;b5,8;b0,9;");
        x.send(0, 1);
        x.send(1, 40);
        check.due("hours(2)", x.hours(2), 2);
        check.due("UP", x.stand(0), 2);
        check.due("POLICY", x.stand(1), 2);
        check.due("SNAPPED", x.stand(2), 1);
        check.due("count(4)", x.count(4), 1);
        check.due("count(5)", x.count(5), 1);
        check.due("CELL of what is UP", x.paper(1, 5), NONE);
    }
}
