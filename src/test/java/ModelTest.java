import java.util.Random;

/** Runs of drawn calls on the class and on the Model: both answer the same. */
public final class ModelTest {
    // A step is 105 calls at most (a text of 73 bytes, spoilt twice): the last begins where it can't go beyond the 512th.
    private static final int RUNS = 1500, CALLS = 512, LONGEST_STEP = 105;
    private static final int[] EDGES = {-1, 0, 1, 2, 39, 40, 41, 60, 61, 99, 100, -40, -41, 1000, Integer.MAX_VALUE, Integer.MIN_VALUE};
    private static final Check check = new Check();

    private final Random random;
    private final String run;
    private final KiteTrays x = new KiteTrays();
    private final Model m = new Model();
    private int calls = 0;

    private ModelTest(int seed) {
        random = new Random(seed);
        run = "run " + seed + ": ";
    }

    public static void main(String[] args) {
        for (int seed = 1; seed <= RUNS; seed++) {
            new ModelTest(seed).play();
        }
        check.end();
    }

    private void play() {
        int wildness = random.nextInt(4);
        if (random.nextInt(8) > 0) {
            read(text(wildness == 0));
        }
        while (calls + LONGEST_STEP <= CALLS) {
            step();
        }
    }

    private void due(String call, long got, long want) {
        calls++;
        check.due(run + call, got, want);
    }

    /** From a to b, at times just beside, at times far off. */
    private int num(int a, int b) {
        int way = random.nextInt(60);
        if (way == 0) {
            return EDGES[random.nextInt(EDGES.length)];
        }
        if (way == 1) {
            return random.nextBoolean() ? a - 1 : b + 1;
        }
        if (way < 6) {
            return random.nextBoolean() ? a : b;
        }
        return a + random.nextInt(b - a + 1);
    }

    private int onePaper() {
        long there = m.count(1);
        return num(0, there > 0 ? (int) there - 1 : 1);
    }

    private int oneWind() {
        long there = m.count(2);
        return num(0, there > 0 ? (int) there - 1 : 1);
    }

    private String text(boolean isWild) {
        StringBuilder text = new StringBuilder("r").append(part(1, 40, 12)).append(',').append(part(1, 99, 30)).append(';');
        for (int i = random.nextInt(7); i > 0; i--) {
            text.append('w').append(part(0, 9, 9)).append(';');
        }
        for (int i = 1 + random.nextInt(6); i > 0; i--) {
            text.append("bftlct".charAt(random.nextInt(6))).append(part(0, 9, 9)).append(',').append(part(1, 60, 15)).append(';');
        }
        if (isWild) {
            spoil(text);
        }
        return text.toString();
    }

    private String part(int a, int b, int often) {
        int v = a + random.nextInt(random.nextInt(3) == 0 ? b - a + 1 : Math.min(often, b) - a + 1);
        return random.nextInt(6) == 0 && v < 10 ? "0" + v : "" + v;
    }

    private void spoil(StringBuilder text) {
        String signs = "rwbftlcq,;0123456789 A{" + (char) 200;
        for (int i = 1 + random.nextInt(2); i > 0; i--) {
            int place = random.nextInt(text.length());
            char sign = signs.charAt(random.nextInt(signs.length()));
            switch (random.nextInt(5)) {
                case 0: text.setCharAt(place, sign); break;
                case 1: text.insert(place, sign); break;
                case 2: text.deleteCharAt(place); break;
                case 3: text.setLength(place + 1); break;
                default: text.insert(text.indexOf(";") + 1, random.nextBoolean() ? "w1;w1;w1;w1;" : "b1,1;b1,1;b1,1;"); break;
            }
        }
    }

    private void read(String text) {
        for (int i = 0; i < text.length(); i++) {
            due("feed", x.feed(text.charAt(i)), m.feed(text.charAt(i)));
        }
        due("roof() of " + text, x.roof(), m.roof());
        due("fault()", x.fault(), m.fault());
    }

    private void step() {
        switch (random.nextInt(12)) {
            case 0: rows(); break;
            case 1: told(); break;
            case 2: case 3: case 4: case 5: done(); break;
            case 6: case 7: shown(); break;
            case 8: foretold(); break;
            case 9: sought(); break;
            case 10: fitting(); break;
            default: asked(); break;
        }
    }

    private void rows() {
        int a = num(0, 7);
        int b = num(0, 3);
        int c = num(0, 12);
        int d = num(0, 40);
        switch (random.nextInt(5)) {
            case 0: due("row", x.row(a, b, c), m.row(a, b, c)); break;
            case 1: due("row", x.row(b, 0, d), m.row(b, 0, d)); break;
            case 2: due("set", x.set(a, c, d * 77), m.set(a, c, d * 77)); break;
            case 3: due("copy", x.copy(b, c, a, d % 4, b), m.copy(b, c, a, d % 4, b)); break;
            default: due("drop", x.drop(a), m.drop(a)); break;
        }
        due("status", x.status(), m.status());
    }

    private void told() {
        int way = random.nextInt(20);
        if (way == 0) {
            read(text(random.nextBoolean()));
        } else if (way == 1) {
            int letter = num(0, 255);
            due("feed", x.feed(letter), m.feed(letter));
        } else if (way < 8) {
            due("undo", x.undo(), m.undo());
        } else if (way < 14) {
            int k = num(0, 1);
            due("image", x.image(k), m.image(k));
        } else if (way < 16) {
            int k = num(0, 1);
            due("restore", x.restore(k), m.restore(k));
        } else {
            int what = num(0, 7);
            due("count", x.count(what), m.count(what));
        }
    }

    private void done() {
        int i = onePaper();
        int out = num(1, 40);
        int by = num(-12, 12);
        int weight = random.nextBoolean() ? num(1, 60) : num(1, 12);
        int wind = oneWind();
        int n = random.nextInt(6) == 0 ? num(1, 24) : num(1, 2);
        switch (random.nextInt(6)) {
            case 0: due("hours(" + n + ")", x.hours(n), m.hours(n)); break;
            case 1: case 2: due("send", x.send(i, out), m.send(i, out)); break;
            case 3: due("let", x.let(i, by), m.let(i, by)); break;
            case 4: due("weigh", x.weigh(i, weight), m.weigh(i, weight)); break;
            default: due("blow", x.blow(wind, out % 11), m.blow(wind, out % 11)); break;
        }
    }

    private void shown() {
        int i = onePaper();
        for (int what = 1; what < 7; what++) {
            due("paper", x.paper(i, what), m.paper(i, what));
        }
        int what = num(0, 4);
        due("stand", x.stand(what), m.stand(what));
        due("pull", x.pull(i), m.pull(i));
        int n = num(0, 60);
        due("force", x.force(n), m.force(n));
        int q = num(0, 1);
        due("quarrels", x.quarrels(q), m.quarrels(q));
    }

    private void foretold() {
        int i = onePaper();
        int n = num(0, 60);
        int what = num(0, 2);
        due("ahead", x.ahead(i, n, what), m.ahead(i, n, what));
        due("when", x.when(i, what), m.when(i, what));
        due("policy", x.policy(n), m.policy(n));
        int seed = num(1, 999999);
        due("drawn", x.drawn(n, seed, what), m.drawn(n, seed, what));
    }

    private void sought() {
        int i = onePaper();
        int n = random.nextBoolean() ? num(1, 30) : num(1, 3);
        int yards = num(1, 40);
        int k = num(-1, 4);
        int few = num(1, 4);
        int hours = num(0, 8);
        int p = num(0, 10);
        int what = num(0, 1);
        switch (random.nextInt(5)) {
            case 0: due("sends", x.sends(n, yards, what), m.sends(n, yards, what)); break;
            case 1: due("lets", x.lets(i, few, k), m.lets(i, few, k)); break;
            case 2: due("light", x.light(i, n), m.light(i, n)); break;
            case 3: due("gust", x.gust(i), m.gust(i)); break;
            default: due("calm", x.calm(i, hours, p, what), m.calm(i, hours, p, what)); break;
        }
    }

    /** Rows that tell the truth of a ROOF that is a little other, so that some of them fit. */
    private void fitting() {
        int i = onePaper();
        int row = num(0, 1);
        int n = random.nextBoolean() ? num(1, 12) : num(1, 3);
        int from = num(0, 3);
        int which = num(0, 4);
        int wind = oneWind();
        due("row", x.row(row, 0, n + 2), m.row(row, 0, n + 2));
        int shift = random.nextInt(4) == 0 ? random.nextInt(4) : 0;
        for (int h = 0; h < n && h < 14; h++) {
            int high = (int) m.ahead(i, h + 1, 0) + shift;
            due("set", x.set(row, from + h, high), m.set(row, from + h, high));
        }
        switch (random.nextInt(3)) {
            case 0: due("who", x.who(i, which, row, from, n), m.who(i, which, row, from, n)); break;
            case 1: due("winds", x.winds(i, wind, row, from, n), m.winds(i, wind, row, from, n)); break;
            default: due("tapes", x.tapes(i, which % 2, row, from, n), m.tapes(i, which % 2, row, from, n)); break;
        }
        due("status", x.status(), m.status());
    }

    private void asked() {
        int i = onePaper();
        int what = num(0, 1);
        int kind = num(0, 5);
        due("kind", x.kind(i), m.kind(i));
        due("as", x.as(i, kind), m.as(i, kind));
        due("ask", x.ask(i, what), m.ask(i, what));
        int k = num(0, 6);
        due("trace", x.trace(k), m.trace(k));
        due("status", x.status(), m.status());
    }
}
