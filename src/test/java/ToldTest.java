/** Promises 1, 6 to 9: a new object, the tape, its FAULTS, and what is undone. */
public final class ToldTest {
    private static final int BAD = KiteTrays.BAD, STATE = KiteTrays.STATE, FULL = KiteTrays.FULL, NONE = KiteTrays.NONE;
    private static final Check check = new Check();

    public static void main(String[] args) {
        newObject();
        feeds();
        roofs();
        faults();
        faultKeepsAll();
        undoes();
        forgets();
        check.end();
    }

    private static void newObject() {
        KiteTrays x = new KiteTrays();
        for (int what = 0; what < 8; what++) {
            check.due("count(" + what + ")", x.count(what), 0);
        }
        check.due("fault()", x.fault(), 0);
        check.due("undo()", x.undo(), STATE);
        check.due("status()", x.status(), 0);
        check.due("trace(0)", x.trace(0), NONE);
        check.due("stand(0)", x.stand(0), STATE);
        check.due("restore(0)", x.restore(0), STATE);
        check.due("paper(0, 0)", x.paper(0, 0), BAD);
    }

    private static void feeds() {
        KiteTrays x = new KiteTrays();
        check.due("feed(-1)", x.feed(-1), BAD);
        check.due("feed(256)", x.feed(256), BAD);
        check.due("feed(0)", x.feed(0), 1);
        check.due("feed(255)", x.feed(255), 2);
        for (int n = 3; n <= 100; n++) {
            check.due("feed", x.feed('r'), n);
        }
        check.due("count(7)", x.count(7), 100);
        check.due("feed of one more", x.feed('r'), FULL);
        check.due("feed, BAD ahead of FULL", x.feed(256), BAD);
        check.due("roof()", x.roof(), -1000100);
        check.due("count(7) behind roof()", x.count(7), 0);
        check.due("feed", x.feed('r'), 1);
    }

    private static void roofs() {
        KiteTrays x = new KiteTrays();
        check.due("the longest", Check.read(x, "r40,99;w09;w09;w09;w09;w09;w00;b00,01;f09,60;t09,60;l09,60;c09,60;b09,60;"), 6);
        check.due("fault()", x.fault(), 0);
        check.due("stand(3)", x.stand(3), 40);
        check.due("stand(4)", x.stand(4), 99);
        check.due("count(1)", x.count(1), 6);
        check.due("count(2)", x.count(2), 6);
        int[] forces = {9, 9, 9, 9, 9, 0, 9};
        for (int n = 0; n < 7; n++) {
            check.due("force(" + n + ")", x.force(n), forces[n]);
        }
        int[] kinds = {1, 2, 3, 4, 5, 1};
        for (int i = 0; i < 6; i++) {
            check.due("kind(" + i + ")", x.kind(i), kinds[i]);
            check.due("BELLY", x.paper(i, 0), i == 0 ? 0 : 9);
            check.due("WEIGHT", x.paper(i, 1), i == 0 ? 1 : 60);
            check.due("how it is", x.paper(i, 2), 0);
        }
        x.send(5, 3);
        x.hours(2);
        check.due("another", Check.read(x, "r1,1;c2,3;"), 1);
        check.due("HOUR", x.count(3), 0);
        check.due("WINDS", x.count(2), 0);
        check.due("force(5) without WINDS", x.force(5), 0);
        check.due("UP", x.stand(0), 0);
        check.due("undo() behind roof()", x.undo(), STATE);
        check.due("paper(1, 0) is no more", x.paper(1, 0), BAD);
    }

    private static void fault(String text, int place, int number) {
        KiteTrays x = new KiteTrays();
        check.due("roof() of " + text, Check.read(x, text), -1000100 - place);
        check.due("fault() of " + text, x.fault(), number);
    }

    private static void faults() {
        fault("", 0, 1);
        fault("R1,1;b1,1;", 0, 1);
        fault("b1,1;", 0, 1);
        fault(" r1,1;b1,1;", 0, 1);
        fault("rr", 1, 1);
        fault("r,1;b1,1;", 1, 1);
        fault("r-1,1;b1,1;", 1, 1);
        fault("r0,1;b1,1;", 1, 2);
        fault("r00,1;b1,1;", 1, 2);
        fault("r41,0;b1,1;", 1, 2);
        fault("r001,1;b1,1;", 1, 1);
        fault("r100,1;b1,1;", 1, 1);
        fault("r1;b1,1;", 2, 1);
        fault("r1 ,1;b1,1;", 2, 1);
        fault("r1,0;b1,1;", 3, 2);
        fault("r1,100;b1,1;", 3, 1);
        fault("r1,99", 5, 1);
        fault("r1,99,", 5, 1);
        fault("r40,99;", 7, 1);
        fault("r1,1;w;b1,1;", 6, 1);
        fault("r1,1;w10;b1,1;", 6, 2);
        fault("r1,1;w999;b1,1;", 6, 1);
        fault("r1,1;w1,1;", 7, 1);
        fault("r1,1;w1;w1;w1;w1;w1;w1;w1;b1,1;", 23, 3);
        fault("r1,1;w1;w1;w1;w1;w1;w1;r1;b1,1;", 23, 1);
        fault("r1,1;5", 5, 1);
        fault("r1,1;a1,1;", 5, 1);
        fault("r1,1;b", 6, 1);
        fault("r1,1;bb", 6, 1);
        fault("r1,1;b10,0;", 6, 2);
        fault("r1,1;b1;", 7, 1);
        fault("r1,1;b1,0;", 8, 2);
        fault("r1,1;b1,61;", 8, 2);
        fault("r1,1;b1,600;", 8, 1);
        fault("r1,1;b1,60", 10, 1);
        fault("r1,1;b1,60,", 10, 1);
        fault("r1,1;b1,1;w1;", 10, 1);
        fault("r1,1;b1,1;7", 10, 1);
        fault("r1,1;b1,1;;", 10, 1);
        fault("r1,1;b1,1;r1,1;", 10, 1);
        fault("r1,1;b1,1;b1,1;b1,1;b1,1;b1,1;b1,1;c", 35, 3);
        fault("r1,1;b1,1;b1,1;b1,1;b1,1;b1,1;b1,1;w", 35, 1);
        fault("r1,1;b1,1;b1,1;b1,1;b1,1;b1,1;b1,1;2", 35, 1);
        fault("r1,1;b1,1" + (char) 233, 9, 1);
        fault("r1,1;b1,1" + (char) 0, 9, 1);
        fault("r1,1;b1," + (char) 255, 8, 1);
    }

    private static void faultKeepsAll() {
        KiteTrays x = Check.roof("r5,9;w2;w3;b4,6;f5,3;");
        x.send(1, 7);
        x.hours(1);
        check.due("a FAULT", Check.read(x, "r1,1;w9;b9,99;"), -1000111);
        check.due("fault()", x.fault(), 2);
        check.due("the tape is empty", x.count(7), 0);
        check.due("HOUR", x.count(3), 1);
        check.due("STAND", x.stand(3), 5);
        check.due("UP", x.stand(0), 2);
        check.due("HIGH", x.paper(1, 3), 2);
        check.due("FORCE", x.force(0), 3);
        check.due("ACTS", x.count(6), 2);
        check.due("undo()", x.undo(), 1);
        check.due("a ROOF without one", Check.read(x, "r1,1;b1,1;"), 1);
        check.due("fault() is that of the latest that had one", x.fault(), 2);
    }

    private static void undoes() {
        KiteTrays x = Check.roof("r5,9;w2;w3;b4,6;f5,3;");
        x.send(0, 10);
        x.hours(2);
        x.let(0, -8);
        x.weigh(1, 44);
        x.blow(1, 9);
        check.due("count(6)", x.count(6), 6);
        check.due("undo of blow", x.undo(), 5);
        check.due("FORCE", x.force(1), 3);
        check.due("undo of weigh", x.undo(), 4);
        check.due("WEIGHT", x.paper(1, 1), 3);
        check.due("HIGH ahead", x.paper(0, 3), 2);
        check.due("undo of let", x.undo(), 3);
        check.due("OUT", x.paper(0, 4), 10);
        check.due("HIGH", x.paper(0, 3), 8);
        check.due("undo of an HOUR", x.undo(), 2);
        check.due("HIGH", x.paper(0, 3), 2);
        check.due("HOUR", x.count(3), 1);
        check.due("undo of an HOUR", x.undo(), 1);
        check.due("HIGH", x.paper(0, 3), 0);
        check.due("UP", x.stand(0), 1);
        check.due("undo of send", x.undo(), 0);
        check.due("UP", x.stand(0), 0);
        check.due("undo()", x.undo(), STATE);
        check.due("what is refused is no ACT", x.weigh(0, 61), BAD);
        check.due("what is refused is no ACT", x.let(0, 5), STATE);
        check.due("count(6)", x.count(6), 0);
        check.due("WEIGHT as it was is an ACT, too", x.weigh(0, 6), 6);
        check.due("count(6)", x.count(6), 1);
    }

    private static void forgets() {
        KiteTrays x = Check.roof("r5,9;w2;w3;b4,6;f5,3;");
        for (int v = 1; v <= 30; v++) {
            x.weigh(1, v);
        }
        check.due("count(6)", x.count(6), 24);
        for (int many = 23; many >= 0; many--) {
            check.due("undo()", x.undo(), many);
        }
        check.due("WEIGHT, the oldest are forgotten", x.paper(1, 1), 6);
        check.due("undo()", x.undo(), STATE);
        x.send(0, 9);
        x.hours(24);
        check.due("count(6)", x.count(6), 24);
        for (int n = 0; n < 24; n++) {
            x.undo();
        }
        check.due("HOUR", x.count(3), 0);
        check.due("the send was forgotten", x.stand(0), 1);
        // A snapped one is whole again.
        x = Check.roof("r1,1;w9;l0,1;");
        x.send(0, 1);
        x.hours(1);
        check.due("how it is", x.paper(0, 2), 2);
        x.undo();
        check.due("how it is", x.paper(0, 2), 1);
        check.due("CELL", x.paper(0, 5), NONE);
    }
}
