/** Counts answers that are not as due, for one test's main method. */
final class Check {
    private int wrong = 0;
    private int all = 0;
    private String sentence = "";
    private int sentences = 0;
    private int allBefore = 0;

    /** From here on, one sentence of the document is tested: it is told with each answer that is not as due. */
    void told(String words) {
        closeSentence();
        sentence = words;
        sentences++;
        allBefore = all;
    }

    /** A sentence without an answer would be a test that can't fail. */
    private void closeSentence() {
        if (sentences > 0 && all == allBefore) {
            wrong++;
            System.out.println("[" + sentence + "] nothing was tested");
        }
    }

    void due(String call, long got, long want) {
        all++;
        if (got != want) {
            wrong++;
            System.out.println((sentence.isEmpty() ? "" : "[" + sentence + "] ") + call + " answered " + got + ", due is " + want);
        }
    }

    void holds(String what, boolean holds) {
        due(what, holds ? 1 : 0, 1);
    }

    /** THE TRACE has these numbers, and no more. */
    void trace(KiteTrays x, int... want) {
        for (int i = 0; i < want.length; i++) {
            due("trace(" + i + ")", x.trace(i), want[i]);
        }
        due("trace behind its end", x.trace(want.length), KiteTrays.NONE);
    }

    void end() {
        closeSentence();
        String of = sentences > 0 ? " (of " + sentences + " sentences)" : "";
        System.out.println(wrong == 0 ? all + " answers are as due" + of : wrong + " of " + all + " answers are not as due" + of);
        if (wrong != 0 || all == 0) {
            System.exit(1);
        }
    }

    static void feed(KiteTrays x, String text) {
        for (int i = 0; i < text.length(); i++) {
            x.feed(text.charAt(i));
        }
    }

    static int read(KiteTrays x, String text) {
        feed(x, text);
        return x.roof();
    }

    static KiteTrays roof(String text) {
        KiteTrays x = new KiteTrays();
        if (read(x, text) < 1) {
            throw new IllegalStateException("the test's own text is not read: " + text);
        }
        return x;
    }

    static void fill(KiteTrays x, int row, int lane, int... items) {
        x.row(row, lane, items.length);
        for (int i = 0; i < items.length; i++) {
            x.set(row, i, items[i]);
        }
    }
}
