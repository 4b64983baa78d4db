import java.util.function.Supplier;

/** Boundary cases of IMAGES, KINDS, ASKS and THE TRACE, counts and status: 'Terms' 3 and 4, and promises 32 to 39. */
public final class KeptEdgesTest {
    private static final int BAD = KiteTrays.BAD, STATE = KiteTrays.STATE, NONE = KiteTrays.NONE;
    private static final Check check = new Check();
    private static final Twins twins = new Twins(check);

    public static void main(String[] args) {
        image();
        imageState();
        restore();
        restoreOfAnother();
        restoreState();
        kind();
        kindsThatAre();
        asBad();
        asKind();
        sizes();
        marks();
        asks();
        longestTrace();
        askBad();
        traceIsEmptyAhead();
        trace();
        count();
        countOfNone();
        status();
        statusStays();
        manyCalls();
        check.end();
    }

    private static void image() {
        check.told("An IMAGE (0, 1) is kept of the ROOF: 1.");
        twins.bounds("image(v)", Scenes::busy, (x, v) -> x.image(v), 0, 1, 1, 1);
        KiteTrays x = Scenes.busy();
        x.image(1);
        check.due("it is no ACT", x.count(6), 8);
        check.due("status() is none of its", x.status(), 3);
        x.hours(1);
        x.image(0);
        check.due("each is its own", x.restore(1), 1);
        check.due("HOUR", x.count(3), 1);
        check.due("each is its own", x.restore(0), 1);
        check.due("HOUR", x.count(3), 2);
        check.due("the first was kept of HOUR 1, then of HOUR 2", x.image(0), 1);
    }

    private static void imageState() {
        check.told("BAD; STATE: no ROOF.");
        for (int k : new int[] {0, 1}) {
            twins.refused("image(" + k + ")", Scenes::none, x -> x.image(k), STATE);
            twins.refused("image(" + k + ")", Scenes::rows, x -> x.image(k), STATE);
        }
        twins.badOutside("image(v)", Scenes::none, (x, v) -> x.image(v), 0, 1);
    }

    private static void restore() {
        check.told("The ROOF is as an IMAGE kept it (no ACT can be undone then): 1.");
        Supplier<KiteTrays> kept = () -> {
            KiteTrays x = Scenes.busy();
            x.image(1);
            return x;
        };
        twins.bounds("restore(v)", kept, (x, v) -> x.restore(v), 0, 1, 1, 1);
        KiteTrays x = kept.get();
        x.hours(3);
        x.weigh(0, 60);
        x.blow(1, 9);
        x.send(1, 9);
        check.due("restore(1)", x.restore(1), 1);
        int[][] due = {{5, 7, 1, 8, 15, NONE, 1}, {8, 10, 0, 0, 0, NONE, 0}, {4, 6, 2, 0, 0, 6, 0}, {0, 8, 0, 0, 0, NONE, 0},
            {2, 5, 1, 0, 30, NONE, 0}, {3, 4, 1, 14, 20, NONE, 1}};
        for (int i = 0; i < 6; i++) {
            for (int what = 0; what < 7; what++) {
                check.due("paper(" + i + ", " + what + ")", x.paper(i, what), due[i][what]);
            }
        }
        check.due("HOUR", x.count(3), 1);
        for (int n = 0; n < 4; n++) {
            check.due("force(" + n + ")", x.force(n), new int[] {0, 6, 4, 3}[n]);
        }
        check.due("ACTS", x.count(6), 0);
        check.due("undo()", x.undo(), STATE);
        check.due("the tape is not the ROOF's", x.count(7), 9);
        check.due("nor is status()", x.status(), 3);
        check.due("nor is fault()", x.fault(), 2);
        check.due("nor are ROWS", x.count(0), 6);
        check.trace(x, 23, 20, 14, 13, 10);
        // What is done then is none of the IMAGE's.
        x.hours(1);
        check.due("an ACT", x.count(6), 1);
        check.due("undo()", x.undo(), 0);
        x.weigh(0, 33);
        check.due("restore(1) again", x.restore(1), 1);
        check.due("WEIGHT", x.paper(0, 1), 7);
        check.due("HOUR", x.count(3), 1);
        twins.items("ROW 0", x, 0, 1, 2, 3, 4, 5);
    }

    private static void restoreOfAnother() {
        check.told("The ROOF is as an IMAGE kept it");
        // Of more PAPERS and winds than there are now, and of fewer.
        KiteTrays x = Check.roof("r2,3;b4,5;");
        x.image(0);
        Check.read(x, "r9,8;w1;w2;w3;w4;w5;w6;l0,9;l0,8;l0,7;l0,6;l0,5;l0,4;");
        x.send(5, 7);
        x.image(1);
        check.due("restore(0)", x.restore(0), 1);
        check.due("PAPERS", x.count(1), 1);
        check.due("WINDS", x.count(2), 0);
        check.due("STAND", x.stand(3), 2);
        check.due("STRONG", x.stand(4), 3);
        check.due("kind(0)", x.kind(0), 1);
        check.due("kind(1)", x.kind(1), BAD);
        check.due("force(0)", x.force(0), 0);
        check.due("UP", x.stand(0), 0);
        check.due("restore(1)", x.restore(1), 1);
        check.due("PAPERS", x.count(1), 6);
        check.due("WINDS", x.count(2), 6);
        check.due("STAND", x.stand(3), 9);
        check.due("STRONG", x.stand(4), 8);
        check.due("kind(5)", x.kind(5), 4);
        check.due("WEIGHT", x.paper(5, 1), 4);
        check.due("force(5)", x.force(5), 6);
        check.due("UP", x.stand(0), 32);
        // Of HOUR 999: it is FULL then, too.
        x = Scenes.lastHour();
        x.image(0);
        x.undo();
        x.restore(0);
        check.due("hours(1)", x.hours(1), KiteTrays.FULL);
    }

    private static void restoreState() {
        check.told("BAD; STATE: none was kept.");
        twins.refused("restore(1), 0 was kept", Scenes::busy, x -> x.restore(1), STATE);
        twins.refused("restore(0) of a new object", Scenes::none, x -> x.restore(0), STATE);
        twins.refused("restore(0) of a ROOF just read", Scenes.read(Scenes.MIXED), x -> x.restore(0), STATE);
        twins.badOutside("restore(v)", Scenes::busy, (x, v) -> x.restore(v), 0, 1);
        // An IMAGE that was refused is none.
        KiteTrays x = new KiteTrays();
        x.image(0);
        Check.read(x, Scenes.MIXED);
        x.image(2);
        check.due("restore(0)", x.restore(0), STATE);
        check.due("restore(1)", x.restore(1), STATE);
    }

    private static void kind() {
        check.told("The KIND of a PAPER, as told (1 to 5). BAD.");
        twins.bounds("kind(v)", Scenes::busy, (x, v) -> x.kind(v), 0, 1, 5, 3);
        twins.bounds("kind(v) of one", Scenes.read("r1,1;c1,1;"), (x, v) -> x.kind(v), 0, 5, 0, 5);
        int[] due = {1, 2, 3, 4, 5, 3};
        for (int i = 0; i < 6; i++) {
            int paper = i;
            twins.looked("kind(" + i + ")", Scenes::busy, x -> x.kind(paper), due[i]);
        }
    }

    private static void kindsThatAre() {
        check.told("KINDS of PAPERS: 0 PAPER; 1 BILL, a PAPER; 2 FINANCE, a BILL; 3 TREATY, a BILL; 4 LEAFLET, a PAPER; 5 CLOUDED, a LEAFLET.");
        // By KIND: what each of bill, finance bill, treaty, leaflet, clouded, treaty is.
        String[] is = {"yyyyyy", "yyynny", "nynnnn", "nnynny", "nnnyyn", "nnnnyn"};
        for (int k = 0; k < 6; k++) {
            for (int i = 0; i < 6; i++) {
                int kind = k;
                int paper = i;
                String call = "as(" + i + ", " + k + ")";
                if (is[k].charAt(i) == 'y') {
                    twins.lookedWithoutFinding(call, Scenes::busy, x -> x.as(paper, kind), i);
                } else {
                    twins.found(call, Scenes::busy, x -> x.as(paper, kind), Twins.KIND);
                }
            }
        }
    }

    private static void asBad() {
        check.told("A PAPER is taken as one of a KIND (0 .. 5): its number. BAD; KIND: it is no such one.");
        twins.bounds("as(4, v)", Scenes::busy, (x, v) -> x.as(4, v), 0, 4, 5, 4);
        twins.bounds("as(v, 0)", Scenes::busy, (x, v) -> x.as(v, 0), 0, 0, 5, 5);
        twins.badOutside("as(v, 5)", Scenes::busy, (x, v) -> x.as(v, 5), 0, 5);
    }

    private static void asKind() {
        check.told("3 KIND (a PAPER that is not that)");
        // How it is makes no other KIND of it: UP, SNAPPED, heavier.
        KiteTrays x = Scenes.busy();
        check.due("of one that SNAPPED", x.as(2, 3), 2);
        check.due("of one that SNAPPED", x.as(2, 2), -1000013);
        x.weigh(0, 60);
        check.due("of one that is heavier", x.as(0, 1), 0);
        check.due("status()", x.status(), 0);
        check.due("of one that is heavier", x.as(0, 2), -1000013);
        check.due("status()", x.status(), 3);
    }

    /** PAPERS of all KINDS, of these numbers, WEIGHTS and yards HIGH: the last are a clouded one and a treaty. */
    private static KiteTrays fiveKinds() {
        KiteTrays x = Check.roof("r8,99;w3;b5,7;f8,9;t4,6;l0,8;c2,5;t1,60;");
        for (int i = 0; i < 5; i++) {
            x.send(i, 40);
        }
        // HIGH then: 8, 3, 6, 4, 7; the last is in its TRAY.
        x.hours(1);
        return x;
    }

    private static void asked(KiteTrays x, int one, int what, int due, int... bodies) {
        check.due("ask(" + one + ", " + what + ")", x.ask(one, what), due);
        check.trace(x, bodies);
    }

    private static void sizes() {
        KiteTrays x = fiveKinds();
        check.told("11 of BILLS: what 10 gives, and MARK.");
        asked(x, 0, 0, 7 + (0 + 8), 11, 10, 21, 20);
        asked(x, 2, 0, 6 + (2 + 6 - 1000), 11, 10, 22, 21, 20);
        check.told("12 of FINANCE ones: 0 less what 11 gives.");
        asked(x, 1, 0, -(9 + 2 * (1 + 3)), 12, 11, 10, 24, 21, 20);
        check.told("13 of LEAFLETS: what 10 gives, less 100.");
        asked(x, 3, 0, 8 - 100, 13, 10);
        check.told("14 of CLOUDED ones: what 13 gives, twice.");
        asked(x, 4, 0, 2 * (5 - 100), 14, 13, 10);
    }

    private static void marks() {
        KiteTrays x = fiveKinds();
        check.told("21 of BILLS: what 20 gives, and how HIGH it is.");
        asked(x, 0, 1, 0 + 8, 21, 20);
        check.told("22 of TREATIES: what 21 gives, less 1000.");
        asked(x, 2, 1, 2 + 6 - 1000, 22, 21, 20);
        asked(x, 5, 1, 5 + 0 - 1000, 22, 21, 20);
        check.told("23 of LEAFLETS: what 20 gives, less SIZE.");
        asked(x, 3, 1, 3 - (8 - 100), 23, 20, 13, 10);
        asked(x, 4, 1, 4 - 2 * (5 - 100), 23, 20, 14, 13, 10);
        check.told("24 of FINANCE ones: what 21 gives, twice.");
        asked(x, 1, 1, 2 * (1 + 3), 24, 21, 20);
    }

    private static void longestTrace() {
        check.told("each of which leaves its number in THE TRACE as it begins (the first 16)");
        // The longest has six: none comes near 16, and nothing stands behind it.
        KiteTrays x = fiveKinds();
        x.ask(1, 0);
        check.due("the sixth", x.trace(5), 20);
        for (int i = 6; i <= 20; i++) {
            check.due("trace(" + i + ")", x.trace(i), NONE);
        }
    }

    private static void asks() {
        check.told("Of an ask the BODY told for the KIND begins, else that of the nearest KIND that it is, too, else the one that is lent; SIZE, MARK within others are asked of the same PAPER anew.");
        // 8, 0, 0 (SNAPPED), 0, 0, 14 HIGH; WEIGHTS 7, 10, 6, 8, 5, 4.
        int[] sizes = {7 + 8, -(10 + 2 * 1), 6 + 2 - 1000, 8 - 100, 2 * (5 - 100), 4 + 5 + 14 - 1000};
        int[] marks = {8, 2, 2 - 1000, 3 - (8 - 100), 4 - 2 * (5 - 100), 5 + 14 - 1000};
        int[][] sizeTraces = {{11, 10, 21, 20}, {12, 11, 10, 24, 21, 20}, {11, 10, 22, 21, 20}, {13, 10}, {14, 13, 10}, {11, 10, 22, 21, 20}};
        int[][] markTraces = {{21, 20}, {24, 21, 20}, {22, 21, 20}, {23, 20, 13, 10}, {23, 20, 14, 13, 10}, {22, 21, 20}};
        KiteTrays x = Scenes.busy();
        for (int i = 0; i < 6; i++) {
            check.due("SIZE of " + i, x.ask(i, 0), sizes[i]);
            check.trace(x, sizeTraces[i]);
            check.due("MARK of " + i, x.ask(i, 1), marks[i]);
            check.trace(x, markTraces[i]);
        }
        check.due("status() is none of its", x.status(), 3);
        // The least and the greatest there are: WEIGHT 60 and 1, number 5, 40 HIGH.
        x = Scenes.later(Scenes.sent("r1,99;w9;w1;f9,60;l0,1;l0,60;c0,1;c0,60;f9,2;", 1, 1, 1, 1, 1, 40), 1).get();
        check.due("HIGH", x.paper(5, 3), 38);
        check.due("SIZE of a finance bill", x.ask(5, 0), -(2 + 2 * (5 + 38)));
        check.due("SIZE of a heavy one", x.ask(0, 0), -(60 + 0));
        check.due("SIZE of a light leaflet", x.ask(1, 0), -99);
        check.due("SIZE of a heavy leaflet", x.ask(2, 0), -40);
        check.due("SIZE of a light clouded one", x.ask(3, 0), -198);
        check.due("MARK of a heavy clouded one", x.ask(4, 1), 4 + 80);
    }

    private static void askBad() {
        check.told("An ASK (0, 1) of a PAPER. BAD.");
        twins.bounds("ask(0, v)", Scenes::busy, (x, v) -> x.ask(0, v), 0, 15, 1, 8);
        twins.bounds("ask(v, 1)", Scenes::busy, (x, v) -> x.ask(v, 1), 0, 8, 5, -981);
        // An ask changes nothing but THE TRACE: the same once more leaves that, too.
        twins.looked("ask(4, 1)", Scenes::busy, x -> x.ask(4, 1), 194);
    }

    private static void traceIsEmptyAhead() {
        check.told("THE TRACE is empty ahead of it.");
        KiteTrays x = Scenes.busy();
        x.ask(1, 0);
        check.trace(x, 12, 11, 10, 24, 21, 20);
        x.ask(3, 0);
        check.trace(x, 13, 10);
        for (int i = 2; i < 6; i++) {
            check.due("trace(" + i + "), of the one before", x.trace(i), NONE);
        }
        check.due("an ask that is BAD", x.ask(6, 0), BAD);
        check.due("an ask that is BAD", x.ask(0, 2), BAD);
        check.trace(x, 13, 10);
        for (int n = 0; n < 40; n++) {
            x.ask(1, 0);
        }
        check.trace(x, 12, 11, 10, 24, 21, 20);
    }

    private static void trace() {
        check.told("Number i of THE TRACE; NONE.");
        int[] due = {23, 20, 14, 13, 10};
        for (int i = 0; i < 5; i++) {
            int at = i;
            twins.looked("trace(" + i + ")", Scenes::busy, x -> x.trace(at), due[i]);
        }
        for (int i : new int[] {-1, 5, 15, 16, 17, Twins.MOST, Twins.LEAST}) {
            twins.looked("trace(" + i + ")", Scenes::busy, x -> x.trace(i), NONE);
            twins.looked("trace(" + i + ")", Scenes::none, x -> x.trace(i), NONE);
        }
        check.due("trace(0) before an ask", new KiteTrays().trace(0), NONE);
    }

    private static void count() {
        check.told("How many: 0 ROWS, 1 PAPERS, 2 WINDS, 3 HOUR, 4 how many are UP, 5 how many SNAPPED, 6 ACTS that can be undone, 7 bytes on the tape. BAD.");
        int[] due = {6, 6, 4, 1, 3, 1, 8, 9};
        for (int what = 0; what < 8; what++) {
            int of = what;
            twins.looked("count(" + what + ")", Scenes::busy, x -> x.count(of), due[what]);
        }
        twins.bounds("count(v)", Scenes::busy, (x, v) -> x.count(v), 0, 6, 7, 9);
        KiteTrays x = new KiteTrays();
        for (int row = 0; row < 8; row++) {
            x.row(row, 0, 0);
        }
        check.due("all ROWS", x.count(0), 8);
        x.row(3, 1, 4);
        check.due("one in place of another", x.count(0), 8);
        x = Scenes.later(Scenes.sent("r1,1;w9;l0,1;l0,1;l0,1;l0,1;l0,1;l0,1;", 1, 1, 1, 1, 1, 1), 1).get();
        check.due("all SNAPPED", x.count(5), 6);
        check.due("none UP", x.count(4), 0);
        x.undo();
        check.due("none SNAPPED", x.count(5), 0);
        check.due("all UP", x.count(4), 6);
        check.due("the most bytes", Scenes.fullTape().count(7), 100);
        check.due("the last HOUR", Scenes.lastHour().count(3), 999);
        check.due("the most ACTS", Scenes.lastHour().count(6), 24);
    }

    private static void countOfNone() {
        check.told("How many: 0 ROWS");
        for (int what = 0; what < 8; what++) {
            int of = what;
            twins.looked("count(" + what + ")", Scenes::none, x -> x.count(of), 0);
        }
        twins.badOutside("count(v)", Scenes::none, (x, v) -> x.count(v), 0, 7);
    }

    private static void status() {
        check.told("Of the latest call with a ROW, or as(), that was not BAD, STATE, FULL: the number of its FINDING; 0: it had none, or there was none.");
        twins.looked("status()", Scenes::busy, x -> x.status(), 3);
        twins.looked("status(), there was none", Scenes::none, x -> x.status(), 0);
        twins.looked("status(), before a call with a ROW", Scenes.read(Scenes.MIXED), x -> x.status(), 0);
        statusIs("row", 0, x -> x.row(0, 0, 0));
        statusIs("row", 4, x -> x.row(0, 0, -1));
        statusIs("set", 0, x -> x.set(0, 0, 0));
        statusIs("set", 1, x -> x.set(4, 0, 0));
        statusIs("set", 2, x -> x.set(0, 5, 0));
        statusIs("copy", 0, x -> x.copy(0, 0, 6, 0, 0));
        statusIs("copy", 1, x -> x.copy(0, 0, 4, 0, 0));
        statusIs("copy", 2, x -> x.copy(0, 0, 6, 0, 5));
        statusIs("copy", 5, x -> x.copy(0, 0, 1, 0, 0));
        statusIs("drop", 0, x -> x.drop(0));
        statusIs("drop", 1, x -> x.drop(4));
        statusIs("who", 0, x -> x.who(0, 0, 0, 0, 1));
        statusIs("who", 1, x -> x.who(0, 0, 4, 0, 1));
        statusIs("who", 2, x -> x.who(0, 0, 0, 5, 1));
        statusIs("winds", 0, x -> x.winds(0, 0, 0, 0, 1));
        statusIs("winds", 1, x -> x.winds(0, 0, 4, 0, 1));
        statusIs("winds", 2, x -> x.winds(0, 0, 0, 5, 1));
        statusIs("tapes", 0, x -> x.tapes(0, 0, 0, 0, 1));
        statusIs("tapes", 1, x -> x.tapes(0, 0, 4, 0, 1));
        statusIs("tapes", 2, x -> x.tapes(0, 0, 0, 5, 1));
        statusIs("as", 0, x -> x.as(0, 0));
        statusIs("as", 3, x -> x.as(0, 2));
        // NONE is an answer, and no FINDING.
        statusIs("who, NONE", 0, x -> x.who(0, 3, 7, 0, 12));
        statusIs("tapes, NONE", 0, x -> x.tapes(0, 1, 7, 0, 12));
    }

    /** Behind each FINDING there may be before it, and none. */
    private static void statusIs(String call, int number, Twins.Call by) {
        Twins.Call[] before = {x -> x.as(0, 0), x -> x.drop(5), x -> x.set(7, 40, 0), x -> x.as(0, 5), x -> x.row(7, 0, -1), x -> x.copy(1, 0, 2, 0, 0)};
        for (int finding = 0; finding < before.length; finding++) {
            KiteTrays x = Scenes.busy();
            before[finding].on(x);
            check.due("status() ahead", x.status(), finding);
            by.on(x);
            check.due("status() behind " + call, x.status(), number);
            check.due("status() again", x.status(), number);
        }
    }

    private static void statusStays() {
        check.told("Of the latest call with a ROW, or as()");
        Twins.Call[] others = {x -> x.feed('b'), x -> x.feed(-1), x -> x.roof(), x -> x.fault(), x -> x.undo(), x -> x.hours(1), x -> x.hours(0),
            x -> x.send(1, 1), x -> x.send(0, 1), x -> x.let(0, 1), x -> x.let(1, 1), x -> x.weigh(0, 1), x -> x.weigh(0, 0),
            x -> x.blow(0, 1), x -> x.blow(0, 10), x -> x.paper(0, 0), x -> x.force(0), x -> x.stand(0), x -> x.ahead(0, 0, 0),
            x -> x.when(0, 1), x -> x.policy(0), x -> x.pull(0), x -> x.sends(1, 1, 0), x -> x.lets(0, 1, 0), x -> x.light(0, 1),
            x -> x.gust(0), x -> x.quarrels(0), x -> x.calm(0, 0, 0, 0), x -> x.drawn(0, 1, 0), x -> x.image(0), x -> x.restore(0),
            x -> x.restore(1), x -> x.kind(0), x -> x.ask(0, 0), x -> x.trace(0), x -> x.count(0),
            // Calls with a ROW, and as(), that are BAD.
            x -> x.row(8, 0, 0), x -> x.row(0, 0, 41), x -> x.set(8, 0, 0), x -> x.copy(0, 0, 8, 0, 0), x -> x.drop(-1),
            x -> x.who(6, 0, 0, 0, 1), x -> x.winds(0, 4, 0, 0, 1), x -> x.tapes(0, 0, 0, 0, 13), x -> x.as(6, 0), x -> x.as(0, -1)};
        for (int n = 0; n < others.length; n++) {
            KiteTrays x = Scenes.busy();
            others[n].on(x);
            check.due("status() behind other " + n, x.status(), 3);
            x = Scenes.busy();
            x.as(0, 0);
            others[n].on(x);
            check.due("status() behind other " + n, x.status(), 0);
        }
    }

    private static void manyCalls() {
        check.told("An object is used for at most 512 calls after it has been made");
        // The last of 512 is as good as the first.
        KiteTrays x = Check.roof(Scenes.MIXED);
        int calls = Scenes.MIXED.length() + 1;
        x.send(0, 20);
        calls++;
        while (calls < 510) {
            x.hours(1);
            x.undo();
            calls += 2;
        }
        while (calls < 511) {
            x.weigh(1, 30);
            calls++;
        }
        check.due("calls", calls, 511);
        check.due("the 512th", x.hours(1), 1);
    }
}
