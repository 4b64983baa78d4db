import java.util.function.Supplier;

/** Objects that tests begin with; each call makes a new one. */
final class Scenes {
    /** PAPERS: 0 a bill, 1 a finance bill, 2 a treaty, 3 a leaflet, 4 one that is clouded, 5 a treaty. */
    static final String MIXED = "r8,12;w3;w0;w6;w2;b5,7;f8,9;t4,6;l0,8;c2,5;t3,4;";

    private Scenes() { }

    static KiteTrays none() {
        return new KiteTrays();
    }

    /** A text that is read, and nothing more. */
    static Supplier<KiteTrays> read(String text) {
        return () -> Check.roof(text);
    }

    /** A text that is read, and all PAPERS sent up with so many OUT each. */
    static Supplier<KiteTrays> sent(String text, int... outs) {
        return () -> {
            KiteTrays x = Check.roof(text);
            for (int i = 0; i < outs.length; i++) {
                x.send(i, outs[i]);
            }
            return x;
        };
    }

    /** So many HOURS later. */
    static Supplier<KiteTrays> later(Supplier<KiteTrays> made, int hours) {
        return () -> {
            KiteTrays x = made.get();
            for (int left = hours; left > 0; left -= 24) {
                x.hours(Math.min(24, left));
            }
            return x;
        };
    }

    /** ROWS 0, 6, 7 of bytes, 1 of shorts, 2 of ints, 3 without ITEMS; 4 and 5 are missing. */
    static KiteTrays rows() {
        KiteTrays x = new KiteTrays();
        fillRows(x);
        return x;
    }

    private static void fillRows(KiteTrays x) {
        Check.fill(x, 0, 0, 1, 2, 3, 4, 5);
        Check.fill(x, 1, 1, 6, 7, 8);
        Check.fill(x, 2, 2, 9, 10);
        x.row(3, 0, 0);
        Check.fill(x, 6, 0, 11, 12, 13, 14);
        x.row(7, 0, 40);
    }

    /**
     * Something of everything: HOUR 1, winds 3 0 6 4, FORCE 0 in this HOUR; PAPER 0 UP (8 HIGH, 15 OUT, POLICY), 1 in its TRAY
     * (WEIGHT 10), 2 SNAPPED (CELL 6), 3 in its TRAY, 4 UP (0 HIGH, 30 OUT), 5 UP (14 HIGH, 20 OUT, POLICY); 8 ACTS; IMAGE 0 of
     * behind the HOUR, no IMAGE 1; the latest FAULT is 2; nothing on the tape; THE TRACE 23 20 14 13 10; status() is 3.
     */
    static KiteTrays busyWithoutTape() {
        KiteTrays x = new KiteTrays();
        fillRows(x);
        Check.read(x, "r0");
        Check.read(x, MIXED);
        x.send(0, 20);
        x.send(2, 1);
        x.send(5, 20);
        x.hours(1);
        x.image(0);
        x.let(0, -5);
        x.weigh(1, 10);
        x.blow(3, 4);
        x.send(4, 30);
        x.ask(4, 1);
        x.as(0, 5);
        return x;
    }

    /** The same, with "r7,8;b1,2" on the tape. */
    static KiteTrays busy() {
        KiteTrays x = busyWithoutTape();
        Check.feed(x, "r7,8;b1,2");
        return x;
    }

    /** It is 1 yard higher behind each HOUR, until it is 40 HIGH. */
    static Supplier<KiteTrays> steady(int stand) {
        return sent("r" + stand + ",99;w1;b5,4;", 40);
    }

    static KiteTrays fullTape() {
        KiteTrays x = busyWithoutTape();
        for (int n = 0; n < 100; n++) {
            x.feed('b');
        }
        return x;
    }

    /** HOUR 999, and 24 ACTS. */
    static KiteTrays lastHour() {
        return later(read(MIXED), 999).get();
    }
}
