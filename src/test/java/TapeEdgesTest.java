/** Boundary cases of THE TAPE and its FAULTS: what 'Terms' 1 says of texts, and promises 1, 6 to 8. */
public final class TapeEdgesTest {
    private static final int BAD = KiteTrays.BAD, STATE = KiteTrays.STATE, FULL = KiteTrays.FULL, NONE = KiteTrays.NONE;
    private static final String SORTS = "bftlc";
    private static final Check check = new Check();
    private static final Twins twins = new Twins(check);

    public static void main(String[] args) {
        newObject();
        tapeIsFull();
        feeds();
        feedBad();
        tokens();
        law();
        winds();
        moreWinds();
        hourOfWind();
        papers();
        morePapers();
        noPaper();
        threeFigures();
        theEnd();
        numbersNotAsTold();
        firstTokenFirst();
        leastOfOneToken();
        roofAnew();
        roofEmptiesTape();
        faultStays();
        faultNumber();
        check.end();
    }

    private static void newObject() {
        check.told("`KiteTrays()`: No ROOF.");
        KiteTrays x = new KiteTrays();
        for (int what = 0; what < 8; what++) {
            check.due("count(" + what + ")", x.count(what), 0);
        }
        check.due("status()", x.status(), 0);
        check.due("fault()", x.fault(), 0);
        check.due("undo()", x.undo(), STATE);
        check.due("hours(1)", x.hours(1), STATE);
        check.due("image(0)", x.image(0), STATE);
        for (int k = 0; k < 2; k++) {
            check.due("restore(" + k + ")", x.restore(k), STATE);
        }
        for (int i = 0; i < 6; i++) {
            check.due("kind(" + i + ")", x.kind(i), BAD);
        }
        for (int i = 0; i < 17; i++) {
            check.due("trace(" + i + ")", x.trace(i), NONE);
        }
    }

    private static void tapeIsFull() {
        check.told("THE TAPE has at most 100 bytes, that come one by one");
        KiteTrays x = new KiteTrays();
        for (int n = 1; n <= 100; n++) {
            check.due("byte " + n, x.feed('r'), n);
        }
        check.due("one more", x.feed('r'), FULL);
        check.due("count(7)", x.count(7), 100);
        twins.refused("feed of a full tape", Scenes::fullTape, y -> y.feed('b'), FULL);
        // Of 99 bytes the 100th is taken, and is read: the figures behind ';' are one run of three and more.
        x = new KiteTrays();
        Check.feed(x, "r1,1;b1,1;b1,1;b1,1;b1,1;b1,1;b1,1;");
        while (x.count(7) < 99) {
            x.feed('1');
        }
        check.due("the last", x.feed('1'), 100);
        check.due("FULL", x.feed('1'), FULL);
        check.due("roof()", x.roof(), -1000135);
        // A FAULT at the last byte of all.
        x = new KiteTrays();
        Check.feed(x, "r");
        while (x.count(7) < 100) {
            x.feed('0');
        }
        check.due("roof() of 99 figures", x.roof(), -1000101);
        check.due("fault()", x.fault(), 1);
    }

    private static void feeds() {
        check.told("A byte (0 to 255) comes behind the tape: how many it has.");
        KiteTrays x = new KiteTrays();
        for (int letter = 0; letter <= 255; letter++) {
            check.due("feed(" + letter + ")", x.feed(letter), letter % 100 + 1);
            if (letter % 100 == 99) {
                x.roof();
            }
        }
        check.due("count(7)", x.count(7), 56);
        x = Scenes.busyWithoutTape();
        check.due("feed", x.feed(';'), 1);
        check.due("status() is not of feed", x.status(), 3);
    }

    private static void feedBad() {
        check.told("BAD; FULL.");
        twins.bounds("feed(v)", Scenes::busy, (x, v) -> x.feed(v), 0, 10, 255, 10);
        twins.badOutside("feed(v)", Scenes::none, (x, v) -> x.feed(v), 0, 255);
        twins.badOutside("feed(v) of a full tape", Scenes::fullTape, (x, v) -> x.feed(v), 0, 255);
        // A byte by its lowest bits would be 'r'.
        twins.refused("feed(256 + 'r')", Scenes::busy, x -> x.feed(256 + 'r'), BAD);
        twins.refused("feed('r' - 256)", Scenes::busy, x -> x.feed('r' - 256), BAD);
    }

    /** A text is read (number is how many PAPERS, place is -1), or has a FAULT: as the first, and behind other texts. */
    private static void reads(String text, int place, int number) {
        reads(new KiteTrays(), 0, text, place, number);
        reads(Scenes.busyWithoutTape(), 2, text, place, number);
    }

    private static void reads(KiteTrays x, int faultBefore, String text, int place, int number) {
        int papers = x.count(1);
        check.due("roof() of " + text, Check.read(x, text), place < 0 ? number : -1000100 - place);
        check.due("fault() of " + text, x.fault(), place < 0 ? faultBefore : number);
        check.due("count(7) of " + text, x.count(7), 0);
        check.due("count(1) of " + text, x.count(1), place < 0 ? number : papers);
    }

    private static void tokens() {
        check.told("TOKENS: letters a to z (each by itself), NUMBERS (figures, 2 at most), SIGNS , and ; nothing else.");
        String text = "r4,5;w6;b7,8;";
        for (int at = 0; at < text.length(); at++) {
            for (int letter = 0; letter <= 255; letter++) {
                String other = text.substring(0, at) + (char) letter + text.substring(at + 1);
                int due = letter == text.charAt(at) ? 0 : faultOf(at, (char) letter);
                reads(other, due == 0 ? -1 : due / 10, due == 0 ? 1 : due % 10);
            }
        }
        // Each byte behind a text that could be the whole; a paper might begin there.
        for (int letter = 0; letter <= 255; letter++) {
            reads(text + (char) letter, SORTS.indexOf(letter) >= 0 ? 14 : 13, 1);
        }
    }

    /** Of "r4,5;w6;b7,8;" with another byte at a place: 10 times the FAULT's place, and its number; 0: none. */
    private static int faultOf(int at, char letter) {
        boolean isFigure = letter >= '0' && letter <= '9';
        boolean isSort = SORTS.indexOf(letter) >= 0;
        switch (at) {
            case 1: case 3: case 11:
                return isFigure ? letter == '0' ? 10 * at + 2 : 0 : 10 * at + 1;
            case 6: case 9:
                return isFigure ? 0 : 10 * at + 1;
            case 2: case 10:
                // Three figures on end.
                return isFigure ? 10 * (at - 1) + 1 : 10 * at + 1;
            case 4:
                // 50 to 59 is STRONG enough; ';' is due behind it.
                return isFigure ? 10 * (at + 1) + 1 : 10 * at + 1;
            case 7: case 12:
                // 60 and more is neither a FORCE; nor is 80 and more a WEIGHT.
                return isFigure ? 10 * (at - 1) + 2 : 10 * at + 1;
            case 5:
                // A PAPER with a BELLY of 6, and no WEIGHT.
                return isSort ? 71 : 10 * at + 1;
            case 8:
                // Another SORT; or a wind of 7, that has no ';' behind it.
                return isSort ? 0 : letter == 'w' ? 101 : 10 * at + 1;
            default:
                return 10 * at + 1;
        }
    }

    /** A number that may be from least to most, between what stands before it and behind it: 0 to 99, and with a 0 before it. */
    private static void number(String before, String behind, int least, int most) {
        for (int v = 0; v <= 99; v++) {
            boolean isTold = v >= least && v <= most;
            reads(before + v + behind, isTold ? -1 : before.length(), isTold ? 1 : 2);
            if (v < 10) {
                reads(before + "0" + v + behind, isTold ? -1 : before.length(), isTold ? 1 : 2);
            }
        }
        for (int v = 100; v <= 999; v += 9) {
            reads(before + v + behind, before.length(), 1);
        }
        reads(before + "000" + behind, before.length(), 1);
        reads(before + "001" + behind, before.length(), 1);
        reads(before + "0001" + behind, before.length(), 1);
        reads(before + behind, before.length(), 1);
        reads(before + "-1" + behind, before.length(), 1);
    }

    private static void law() {
        check.told("law: r STAND , STRONG ; (1 to 40; 1 to 99).");
        number("r", ",1;b1,1;", 1, 40);
        number("r1,", ";b1,1;", 1, 99);
        for (int stand : new int[] {1, 9, 10, 40}) {
            for (int strong : new int[] {1, 9, 10, 99}) {
                KiteTrays x = Check.roof("r" + stand + "," + strong + ";b1,1;");
                check.due("STAND", x.stand(3), stand);
                check.due("STRONG", x.stand(4), strong);
            }
        }
        reads("b1,1;", 0, 1);
        reads("w1;b1,1;", 0, 1);
        reads("r1,1;r1,1;b1,1;", 5, 1);
        reads("r1,1;b1,1;r1,1;", 10, 1);
        reads("r1;b1,1;", 2, 1);
        reads("r1,1,1;b1,1;", 4, 1);
        reads("R1,1;b1,1;", 0, 1);
    }

    private static void winds() {
        check.told("wind: w FORCE ; (0 to 9; WINDS 0 .. 5, 6 at most");
        number("r1,1;w", ";b1,1;", 0, 9);
        StringBuilder all = new StringBuilder("r1,1;");
        for (int many = 0; many <= 6; many++) {
            KiteTrays x = Check.roof(all + "b1,1;");
            check.due("count(2)", x.count(2), many);
            for (int wind = 0; wind < many; wind++) {
                check.due("blow(" + wind + ", 0)", x.blow(wind, 0), 9 - wind);
            }
            int most = many;
            twins.refused("blow(" + many + ", 0)", Scenes.read(all + "b1,1;"), y -> y.blow(most, 0), BAD);
            all.append('w').append(9 - many).append(';');
        }
        reads("r1,1;w1,1;b1,1;", 7, 1);
        reads("r1,1;w1w1;b1,1;", 7, 1);
        reads("r1,1;b1,1;w1;", 10, 1);
    }

    private static void moreWinds() {
        check.told("3 a wind, a paper more than there is room for (its letter).");
        String six = "r1,1;w0;w1;w2;w3;w4;w5;";
        reads(six + "b1,1;", -1, 1);
        reads(six + "w6;b1,1;", 23, 3);
        reads(six + "w99;b1,1;", 23, 3);
        reads(six + "w", 23, 3);
        reads(six + "ww", 23, 3);
        reads("r1,1;w00;w01;w02;w03;w04;w05;w06;b1,1;", 29, 3);
        reads("r1,1;w0;w1;w2;w3;w4;w10;w6;b1,1;", 21, 2);
    }

    private static void hourOfWind() {
        check.told("the HOUR's is that of the HOUR by how many there are left over; 0 if there are none");
        StringBuilder all = new StringBuilder("r1,1;");
        for (int many = 0; many <= 6; many++) {
            KiteTrays x = Check.roof(all + "b1,1;");
            for (int hour = 0; hour <= 13; hour++) {
                for (int n : new int[] {0, 1, 59, 60}) {
                    int wind = many == 0 ? 0 : (hour + n) % many;
                    check.due(many + " WINDS, HOUR " + hour + ": force(" + n + ")", x.force(n), many == 0 ? 0 : 9 - wind);
                }
                x.hours(1);
            }
            all.append('w').append(9 - many).append(';');
        }
        // It is lifted by just that wind: without any it comes down.
        KiteTrays x = Scenes.sent("r1,99;l0,1;", 9).get();
        check.due("pull without WINDS", x.pull(0), -1);
        check.due("hours(1) without WINDS", x.hours(1), 0);
        check.due("in its TRAY", x.paper(0, 2), 0);
    }

    private static void papers() {
        check.told("paper: SORT BELLY , WEIGHT ; (SORT: b a bill, f a finance bill, t a treaty, l a leaflet, c one that is clouded; 0 to 9; 1 to 60; PAPERS 0 .. 5, 6 at most)");
        number("r1,1;b", ",1;", 0, 9);
        number("r1,1;b1,", ";", 1, 60);
        for (char letter = 'a'; letter <= 'z'; letter++) {
            boolean isSort = SORTS.indexOf(letter) >= 0;
            String text = "r1,1;" + letter + "0,60;";
            if (!isSort) {
                // A wind, too, can stand there, but not as one with a ','.
                reads(text, letter == 'w' ? 7 : 5, 1);
                continue;
            }
            reads(text, -1, 1);
            KiteTrays x = Check.roof(text);
            check.due("kind(0)", x.kind(0), 1 + SORTS.indexOf(letter));
            check.due("BELLY", x.paper(0, 0), 0);
            check.due("WEIGHT", x.paper(0, 1), 60);
            check.due("in its TRAY", x.paper(0, 2), 0);
        }
    }

    private static void morePapers() {
        check.told("a paper more than there is room for (its letter)");
        StringBuilder all = new StringBuilder("r1,1;w1;");
        for (int many = 1; many <= 6; many++) {
            all.append(SORTS.charAt(many % 5)).append(many).append(',').append(61 - many).append(';');
            reads(all.toString(), -1, many);
            KiteTrays x = Check.roof(all.toString());
            check.due("count(1)", x.count(1), many);
            for (int i = 0; i < many; i++) {
                check.due("kind(" + i + ")", x.kind(i), 1 + (i + 1) % 5);
                check.due("BELLY", x.paper(i, 0), i + 1);
                check.due("WEIGHT", x.paper(i, 1), 60 - i);
            }
            int most = many;
            twins.refused("kind(" + many + ")", Scenes.read(all.toString()), y -> y.kind(most), BAD);
        }
        for (char sort : SORTS.toCharArray()) {
            reads(all.toString() + sort + "1,1;", all.length(), 3);
            reads(all.toString() + sort + "99,99;", all.length(), 3);
            reads(all.toString() + sort, all.length(), 3);
        }
        reads(all + "w1;", all.length(), 1);
        reads(all + "r", all.length(), 1);
        reads(all + ";", all.length(), 1);
        reads(all + "1", all.length(), 1);
        reads(all + "999", all.length(), 1);
    }

    private static void noPaper() {
        check.told("roof: law { wind } paper { paper }.");
        reads("", 0, 1);
        reads("r1,1;", 5, 1);
        reads("r1,1;w1;", 8, 1);
        reads("r1,1;w0;w1;w2;w3;w4;w5;", 23, 1);
        reads("r1,1;b1,1;", -1, 1);
        reads("r1,1;w1;b1,1;", -1, 1);
    }

    private static void threeFigures() {
        check.told("1 it cannot stand there, or is none (a run of three figures, at its first;");
        // Where no NUMBER can stand, too.
        reads("123", 0, 1);
        reads("r1,1;123", 5, 1);
        reads("r1,1;b1,1;123", 10, 1);
        reads("r123", 1, 1);
        reads("r99,123", 1, 2);
        reads("r1,123;", 3, 1);
        reads("r1,12;b1,12;", -1, 1);
        reads("r1,1;b1,123", 8, 1);
        reads("r12345678901,1;b1,1;", 1, 1);
        reads("r4 0,1;b1,1;", 2, 1);
    }

    private static void theEnd() {
        check.told("the end: how many bytes there are)");
        String text = "r40,99;w9;b9,60;";
        for (int n = 0; n < text.length(); n++) {
            reads(text.substring(0, n), n, 1);
        }
        reads(text, -1, 1);
        for (int n = 1; n < 6; n++) {
            reads(text + "b9,60;".substring(0, n), text.length() + n, 1);
        }
        reads(text + "b9,60;", -1, 2);
        // Of one TOKEN at the end, what it is comes first.
        reads("r0", 1, 2);
        reads("r41", 1, 2);
        reads("r4", 2, 1);
    }

    private static void numbersNotAsTold() {
        check.told("2 a NUMBER that is not as told");
        // The last that is as told on each side, and the first that is not.
        reads("r1,99;w0;b0,1;", -1, 1);
        reads("r40,1;w9;b9,60;", -1, 1);
        reads("r0,1;w0;b0,1;", 1, 2);
        reads("r41,1;w0;b0,1;", 1, 2);
        reads("r99,1;w0;b0,1;", 1, 2);
        reads("r1,0;w0;b0,1;", 3, 2);
        reads("r1,00;w0;b0,1;", 3, 2);
        reads("r1,1;w10;b0,1;", 6, 2);
        reads("r1,1;w0;b10,1;", 9, 2);
        reads("r1,1;w0;b0,0;", 11, 2);
        reads("r1,1;w0;b0,61;", 11, 2);
        // Of the last of six winds and papers, too.
        reads("r1,1;w0;w0;w0;w0;w0;w10;b0,1;", 21, 2);
        reads("r1,1;b0,1;b0,1;b0,1;b0,1;b0,1;b10,1;", 31, 2);
        reads("r1,1;b0,1;b0,1;b0,1;b0,1;b0,1;b0,61;", 33, 2);
        for (char sort : SORTS.toCharArray()) {
            reads("r1,1;" + sort + "10,1;", 6, 2);
            reads("r1,1;" + sort + "9,0;", 8, 2);
            reads("r1,1;" + sort + "9,61;", 8, 2);
        }
    }

    private static void firstTokenFirst() {
        check.told("FAULTS, the first TOKEN that has one (its first byte)");
        reads("r0,0;", 1, 2);
        reads("r1,0;w10;b10,0;", 3, 2);
        reads("r1,1;w10;b10,0;", 6, 2);
        reads("r1,1;w1;b10,0;", 9, 2);
        reads("r1,1;w1;b1,0?", 11, 2);
        reads("r1,1;w1;b1,1?", 12, 1);
        reads("r41?", 1, 2);
        reads("r40?", 3, 1);
        // Two figures: it is told by the first of them.
        reads("r1,1;w55;b1,1;", 6, 2);
        reads("r1,1;b1,61;", 8, 2);
    }

    private static void leastOfOneToken() {
        check.told("of one TOKEN the least");
        // Not as told anywhere, and where no NUMBER can stand.
        reads("r1,1;99;b1,1;", 5, 1);
        reads("r1,1;b1,1;0", 10, 1);
        reads("00,1;b1,1;", 0, 1);
        // A wind more than there is room for, where no wind can stand.
        reads("r1,1;w0;w1;w2;w3;w4;w5;b1,1;w6;", 28, 1);
        reads("r1,1;w0;w1;w2;w3;w4;w5;bw", 24, 1);
        // A paper more, where none can stand.
        reads("r1,1;b1,1;b1,1;b1,1;b1,1;b1,1;b1,1b", 34, 1);
    }

    private static void roofAnew() {
        check.told("A ROOF that is read stands in place of the one before (none at first): HOUR 0, all PAPERS are in their TRAYS; no ACT can be undone.");
        KiteTrays x = Scenes.busyWithoutTape();
        check.due("roof()", Check.read(x, Scenes.MIXED), 6);
        check.due("HOUR", x.count(3), 0);
        check.due("UP", x.stand(0), 0);
        check.due("SNAPPED", x.stand(2), 0);
        check.due("POLICY", x.stand(1), 0);
        for (int i = 0; i < 6; i++) {
            check.due("how " + i + " is", x.paper(i, 2), 0);
            check.due("HIGH", x.paper(i, 3), 0);
            check.due("OUT", x.paper(i, 4), 0);
            check.due("CELL", x.paper(i, 5), NONE);
        }
        check.due("WEIGHT as told", x.paper(1, 1), 9);
        check.due("FORCE as told", x.force(3), 2);
        check.due("ACTS", x.count(6), 0);
        check.due("undo()", x.undo(), STATE);
        check.due("an ACT of its own", x.weigh(0, 9), 7);
        check.due("undo()", x.undo(), 0);
        check.due("undo()", x.undo(), STATE);
        // All that is no ROOF stays.
        check.due("status()", x.status(), 3);
        check.due("fault()", x.fault(), 2);
        check.trace(x, 23, 20, 14, 13, 10);
        check.due("count(0)", x.count(0), 6);
        check.due("IMAGE 0", x.restore(0), 1);
        check.due("HOUR", x.count(3), 1);
        twins.items("ROW 0", x, 0, 1, 2, 3, 4, 5);
        // Fewer winds and papers than before.
        x = Scenes.busyWithoutTape();
        check.due("roof()", Check.read(x, "r2,3;c4,5;"), 1);
        check.due("count(1)", x.count(1), 1);
        check.due("count(2)", x.count(2), 0);
        check.due("force(0)", x.force(0), 0);
        check.due("kind(1)", x.kind(1), BAD);
    }

    private static void roofEmptiesTape() {
        check.told("The tape, empty then, is read: how many PAPERS there are.");
        KiteTrays x = Scenes.busy();
        x.feed(';');
        check.due("roof()", x.roof(), 1);
        check.due("count(7)", x.count(7), 0);
        check.due("roof() of nothing", x.roof(), -1000100);
        check.due("feed", x.feed('r'), 1);
        check.due("roof()", x.roof(), -1000101);
        check.due("empty behind a FAULT, too", x.count(7), 0);
        check.due("feed", x.feed('r'), 1);
        x = Scenes.fullTape();
        check.due("roof() of a full tape", x.roof(), -1000100);
        check.due("then there is room", x.feed('r'), 1);
    }

    private static void faultStays() {
        check.told("-1000100 less the place of a FAULT: all stays.");
        // The latest FAULT was 2, too, and the tape is empty before and behind: so nothing at all is other then.
        String[] texts = {"r0,1;b1,1;", "r1,1;w99;b1,1;", "r9,9;w1;w2;b1,1;f2,2;t3,3;l4,4;c5,5;b6,61;", "r41", "r1,1;b1,0;"};
        int[] places = {1, 6, 39, 1, 8};
        for (int n = 0; n < texts.length; n++) {
            String text = texts[n];
            twins.refused("roof() of " + text, Scenes::busyWithoutTape, x -> Check.read(x, text), -1000100 - places[n]);
        }
        // The first place and the last that there can be.
        reads("?", 0, 1);
        KiteTrays x = new KiteTrays();
        Check.feed(x, "r40,99;w09;w09;w09;w09;w09;w09;b09,60;b09,60;b09,60;b09,60;b09,60;b09,60;");
        check.due("the longest text", x.count(7), 73);
        check.due("the longest text", x.roof(), 6);
        reads("r40,99;w09;w09;w09;w09;w09;w09;b09,60;b09,60;b09,60;b09,60;b09,60;b09,60", 72, 1);
        reads("r40,99;w09;w09;w09;w09;w09;w09;b09,60;b09,60;b09,60;b09,60;b09,60;b09,60;b", 73, 3);
    }

    private static void faultNumber() {
        check.told("The number of the latest FAULT; 0 before one.");
        KiteTrays x = new KiteTrays();
        check.due("before one", x.fault(), 0);
        Check.read(x, Scenes.MIXED);
        check.due("a text without one", x.fault(), 0);
        Check.read(x, "r0");
        check.due("2", x.fault(), 2);
        Check.read(x, "r1,1;w0;w1;w2;w3;w4;w5;w");
        check.due("3", x.fault(), 3);
        Check.read(x, "");
        check.due("1", x.fault(), 1);
        Check.read(x, "r41");
        Check.read(x, Scenes.MIXED);
        check.due("it stays behind a text without one", x.fault(), 2);
        x.image(0);
        x.restore(0);
        check.due("it is not the ROOF's", x.fault(), 2);
        twins.looked("fault()", Scenes::busy, y -> y.fault(), 2);
        twins.looked("fault()", Scenes::none, y -> y.fault(), 0);
    }
}
