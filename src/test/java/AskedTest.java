/** Promises 34 to 39: KINDS, ASKS and THE TRACE, counts, status. */
public final class AskedTest {
    private static final int BAD = KiteTrays.BAD, NONE = KiteTrays.NONE, KIND = -1000013;
    private static final Check check = new Check();

    public static void main(String[] args) {
        kinds();
        asks();
        traceStays();
        counts();
        statuses();
        check.end();
    }

    private static KiteTrays five() {
        KiteTrays x = Check.roof("r8,99;w3;b5,7;f8,9;t4,6;l0,8;c2,5;");
        for (int i = 0; i < 5; i++) {
            x.send(i, 40);
        }
        // HIGH then: 8, 3, 6, 4, 7.
        x.hours(1);
        return x;
    }

    private static void kinds() {
        KiteTrays x = five();
        // Bits by KIND of what each PAPER is, too.
        int[] isToo = {0b000011, 0b000111, 0b001011, 0b010001, 0b110001};
        for (int i = 0; i < 5; i++) {
            check.due("kind(" + i + ")", x.kind(i), i + 1);
            for (int k = 0; k < 6; k++) {
                boolean is = (isToo[i] >> k & 1) == 1;
                check.due("as(" + i + ", " + k + ")", x.as(i, k), is ? i : KIND);
                check.due("status()", x.status(), is ? 0 : 3);
            }
            check.due("as(" + i + ", 6)", x.as(i, 6), BAD);
            check.due("as(" + i + ", -1)", x.as(i, -1), BAD);
        }
        check.due("kind(5)", x.kind(5), BAD);
        check.due("kind(-1)", x.kind(-1), BAD);
        check.due("as(5, 0)", x.as(5, 0), BAD);
        check.due("as(-1, 0)", x.as(-1, 0), BAD);
    }

    private static void asks() {
        KiteTrays x = five();
        check.due("SIZE of a bill", x.ask(0, 0), 7 + 0 + 8);
        check.trace(x, 11, 10, 21, 20);
        check.due("MARK of a bill", x.ask(0, 1), 8);
        check.trace(x, 21, 20);
        check.due("SIZE of a finance bill", x.ask(1, 0), -(9 + 2 * (1 + 3)));
        check.trace(x, 12, 11, 10, 24, 21, 20);
        check.due("MARK of a finance bill", x.ask(1, 1), 2 * (1 + 3));
        check.trace(x, 24, 21, 20);
        check.due("SIZE of a treaty", x.ask(2, 0), 6 + (2 + 6 - 1000));
        check.trace(x, 11, 10, 22, 21, 20);
        check.due("MARK of a treaty", x.ask(2, 1), 2 + 6 - 1000);
        check.trace(x, 22, 21, 20);
        check.due("SIZE of a leaflet", x.ask(3, 0), 8 - 100);
        check.trace(x, 13, 10);
        check.due("MARK of a leaflet", x.ask(3, 1), 3 - (8 - 100));
        check.trace(x, 23, 20, 13, 10);
        check.due("SIZE of a clouded one", x.ask(4, 0), 2 * (5 - 100));
        check.trace(x, 14, 13, 10);
        check.due("MARK of a clouded one", x.ask(4, 1), 4 - 2 * (5 - 100));
        check.trace(x, 23, 20, 14, 13, 10);
        x.weigh(0, 60);
        x.let(0, -35);
        check.due("SIZE by what is now", x.ask(0, 0), 60 + 0 + 5);
        x.undo();
        x.undo();
        x.undo();
        check.due("MARK at HIGH 0", x.ask(0, 1), 0);
    }

    private static void traceStays() {
        KiteTrays x = five();
        x.ask(4, 0);
        check.due("ask(5, 0)", x.ask(5, 0), BAD);
        check.due("ask(-1, 0)", x.ask(-1, 0), BAD);
        check.due("ask(0, 2)", x.ask(0, 2), BAD);
        check.due("ask(0, -1)", x.ask(0, -1), BAD);
        x.hours(1);
        Check.read(x, "r1,1;b1,1;");
        check.trace(x, 14, 13, 10);
        check.due("trace(-1)", x.trace(-1), NONE);
        check.due("trace(16)", x.trace(16), NONE);
        check.due("trace(MOST)", x.trace(Integer.MAX_VALUE), NONE);
        check.due("trace(LEAST)", x.trace(Integer.MIN_VALUE), NONE);
    }

    private static void counts() {
        KiteTrays x = five();
        x.row(3, 1, 4);
        x.feed('r');
        int[] due = {1, 5, 1, 1, 5, 0, 6, 1};
        for (int what = 0; what < due.length; what++) {
            check.due("count(" + what + ")", x.count(what), due[what]);
        }
        check.due("count(8)", x.count(8), BAD);
        check.due("count(-1)", x.count(-1), BAD);
    }

    private static void statuses() {
        KiteTrays x = five();
        x.as(0, 5);
        check.due("behind as()", x.status(), 3);
        x.hours(1);
        x.ask(0, 0);
        x.undo();
        x.hours(99);
        check.due("other calls leave it", x.status(), 3);
        x.row(0, 0, -1);
        check.due("behind row()", x.status(), 4);
        x.who(0, 0, 9, 0, 1);
        check.due("behind BAD", x.status(), 4);
        x.who(0, 0, 0, 0, 1);
        check.due("behind who()", x.status(), 1);
        x.row(0, 0, 3);
        check.due("behind row()", x.status(), 0);
        x.winds(0, 0, 0, 3, 1);
        check.due("behind winds()", x.status(), 2);
        x.tapes(0, 0, 0, 0, 3);
        check.due("behind tapes()", x.status(), 0);
        x.tapes(0, 0, 1, 0, 3);
        check.due("behind tapes()", x.status(), 1);
        x.winds(0, 0, 0, 0, 1);
        check.due("behind winds()", x.status(), 0);
        x.drop(5);
        check.due("behind drop()", x.status(), 1);
        x.who(0, 0, 0, 0, 1);
        check.due("behind who()", x.status(), 0);
        x.drop(5);
        x.row(5, 0, 1);
        x.set(5, 1, 1);
        x.drop(5);
        check.due("behind drop()", x.status(), 0);
        x.row(1, 1, 3);
        x.copy(0, 0, 1, 0, 1);
        check.due("behind copy()", x.status(), 5);
        check.due("as(0, 1)", x.as(0, 1), 0);
        check.due("behind as()", x.status(), 0);
    }
}
