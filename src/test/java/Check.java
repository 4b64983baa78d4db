/** Counts answers that are not as due, for one test's main method. */
final class Check {
    private int wrong = 0;
    private int all = 0;

    void due(String call, long got, long want) {
        all++;
        if (got != want) {
            wrong++;
            System.out.println(call + " answered " + got + ", due is " + want);
        }
    }

    /** THE TRACE has these numbers, and no more. */
    void trace(KiteTrays x, int... want) {
        for (int i = 0; i < want.length; i++) {
            due("trace(" + i + ")", x.trace(i), want[i]);
        }
        due("trace behind its end", x.trace(want.length), KiteTrays.NONE);
    }

    void end() {
        System.out.println(wrong == 0 ? all + " answers are as due" : wrong + " of " + all + " answers are not as due");
        if (wrong != 0 || all == 0) {
            System.exit(1);
        }
    }

    static void feed(KiteTrays x, String text) {
        for (int i = 0; i < text.length(); i++) {
            x.feed(text.charAt(i));
        }
    }

    static int read(KiteTrays x, String text) {
        feed(x, text);
        return x.roof();
    }

    static KiteTrays roof(String text) {
        KiteTrays x = new KiteTrays();
        if (read(x, text) < 1) {
            throw new IllegalStateException("the test's own text is not read: " + text);
        }
        return x;
    }

    static void fill(KiteTrays x, int row, int lane, int... items) {
        x.row(row, lane, items.length);
        for (int i = 0; i < items.length; i++) {
            x.set(row, i, items[i]);
        }
    }
}
