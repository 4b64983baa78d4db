import java.math.BigInteger;
import java.util.ArrayDeque;
import java.util.ArrayList;
import java.util.Arrays;
import java.util.Deque;
import java.util.List;
import java.util.function.Predicate;
import java.util.function.UnaryOperator;
import java.util.regex.Matcher;
import java.util.regex.Pattern;

/**
 * The document once more, in another way: every ROOF is a value that is never changed, what is foretold is what becomes
 * of such values by ACTS, and tapes are read by a list of what may stand next. Slow, and free in what it uses.
 */
final class Model {
    private static final long NONE = -1000000, BAD = -1000001, STATE = -1000002, FULL = -1000003;
    private static final String SORTS = " bftlc";

    /** A PAPER: where is 't' (TRAY), 'u' (UP) or 's' (SNAPPED). */
    private record Kite(int kind, int belly, int weight, char where, int high, int out, int cell) {
        Kite with(int k, int b, int w) {
            return new Kite(k, b, w, where, high, out, cell);
        }

        Kite tray() {
            return new Kite(kind, belly, weight, 't', 0, 0, 0);
        }

        Kite up(int h, int o) {
            return new Kite(kind, belly, weight, 'u', h, o, 0);
        }

        Kite snapped(int c) {
            return new Kite(kind, belly, weight, 's', 0, 0, c);
        }

        Kite letTo(int o) {
            return up(Math.min(high, o), o);
        }
    }

    private record State(int stand, int strong, int hour, List<Integer> winds, List<Kite> kites) {
        State with(int i, Kite k) {
            List<Kite> next = new ArrayList<>(kites);
            next.set(i, k);
            return new State(stand, strong, hour, winds, next);
        }

        State withWind(int w, int force) {
            List<Integer> next = new ArrayList<>(winds);
            next.set(w, force);
            return new State(stand, strong, hour, next, kites);
        }

        State withStrong(int s) {
            return new State(stand, s, hour, winds, kites);
        }

        int forceOn(int n) {
            return winds.isEmpty() ? 0 : winds.get((hour + n) % winds.size());
        }

        int rise(int i, int force) {
            Kite k = kites.get(i);
            int lift = k.belly * force;
            if (k.kind == 2 && k.high < 20) {
                lift /= 2;
            }
            if (k.kind == 3) {
                for (int j = 0; j < kites.size(); j++) {
                    if (j != i && kites.get(j).kind == 3 && kites.get(j).where == 'u') {
                        lift = 2 * k.belly * force;
                    }
                }
            }
            if (k.kind >= 4) {
                lift = 4 * force;
            }
            if (k.kind == 5 && k.high >= 30 && lift < 30) {
                lift = 30;
            }
            return lift - k.weight;
        }

        Kite after(int i, int force) {
            Kite k = kites.get(i);
            if (k.where != 'u') {
                return k;
            }
            int rise = rise(i, force);
            int high = k.high + rise;
            if (rise > 0 && high - k.out > strong) {
                return k.snapped((i + k.out + force) % 16);
            }
            if (rise < 0 && high <= 0) {
                return k.tray();
            }
            return k.up(high > k.out ? k.out : high, k.out);
        }

        State hourIn(int force) {
            List<Kite> next = new ArrayList<>();
            for (int i = 0; i < kites.size(); i++) {
                next.add(after(i, force));
            }
            return new State(stand, strong, hour + 1, winds, next);
        }

        State hours(int n) {
            State s = this;
            for (int h = 0; h < n; h++) {
                s = s.hourIn(s.forceOn(0));
            }
            return s;
        }

        int bits(Predicate<Kite> of) {
            int bits = 0;
            for (int i = kites.size() - 1; i >= 0; i--) {
                bits = 2 * bits + (of.test(kites.get(i)) ? 1 : 0);
            }
            return bits;
        }

        int policy() {
            return bits(k -> k.where == 'u' && k.high >= stand);
        }

        boolean isPolicy(int i) {
            return (policy() & 1 << i) != 0;
        }
    }

    private final int[][] rows = new int[8][];
    private final int[] lanes = new int[8];
    private String tape = "";
    private long fault = 0;
    private long status = 0;
    private State now = null;
    private final Deque<State> acts = new ArrayDeque<>();
    private final State[] images = new State[2];
    private final List<Integer> trace = new ArrayList<>();

    // ---- rows

    private long found(int finding) {
        status = finding;
        return -1000010 - finding;
    }

    private long fine(long answer) {
        status = 0;
        return answer;
    }

    private static boolean in(long v, long a, long b) {
        return a <= v && v <= b;
    }

    private static boolean outside(int[] row, long i, long n) {
        return i < 0 || n < 0 || i + n > row.length;
    }

    long row(int row, int lane, int n) {
        if (!in(row, 0, 7) || !in(lane, 0, 2) || n > 40) {
            return BAD;
        }
        if (n < 0) {
            return found(4);
        }
        rows[row] = new int[n];
        lanes[row] = lane;
        return fine(n);
    }

    long set(int row, int i, int v) {
        if (!in(row, 0, 7)) {
            return BAD;
        }
        if (rows[row] == null) {
            return found(1);
        }
        if (outside(rows[row], i, 1)) {
            return found(2);
        }
        int spare = new int[] {24, 16, 0}[lanes[row]];
        rows[row][i] = v << spare >> spare;
        return fine(rows[row][i]);
    }

    long copy(int a, int i, int b, int j, int n) {
        if (!in(a, 0, 7) || !in(b, 0, 7)) {
            return BAD;
        }
        if (rows[a] == null || rows[b] == null) {
            return found(1);
        }
        if (lanes[a] != lanes[b]) {
            return found(5);
        }
        if (outside(rows[a], i, n) || outside(rows[b], j, n)) {
            return found(2);
        }
        int[] were = rows[a].clone();
        for (int k = 0; k < n; k++) {
            rows[b][j + k] = were[i + k];
        }
        return fine(n);
    }

    long drop(int row) {
        if (!in(row, 0, 7)) {
            return BAD;
        }
        if (rows[row] == null) {
            return found(1);
        }
        int had = rows[row].length;
        rows[row] = null;
        return fine(had);
    }

    // ---- what is told

    long feed(int letter) {
        if (!in(letter, 0, 255)) {
            return BAD;
        }
        if (tape.length() == 100) {
            return FULL;
        }
        tape += (char) letter;
        return tape.length();
    }

    private record Token(String text, int place) {
        boolean isNumber() {
            return text.matches("[0-9]{1,2}");
        }
    }

    private static List<Token> tokens(String text) {
        List<Token> tokens = new ArrayList<>();
        Matcher m = Pattern.compile("[0-9]+|.", Pattern.DOTALL).matcher(text);
        while (m.find()) {
            tokens.add(new Token(m.group(), m.start()));
        }
        tokens.add(new Token("end", text.length()));
        return tokens;
    }

    /** What comes behind a letter: signs, and numbers as their bounds. */
    private static int[][] shape(char letter) {
        switch (letter) {
            case 'r': return new int[][] {{1, 40}, {','}, {1, 99}, {';'}};
            case 'w': return new int[][] {{0, 9}, {';'}};
            default: return new int[][] {{0, 9}, {','}, {1, 60}, {';'}};
        }
    }

    private long fail(Token at, int number) {
        fault = number;
        return -1000100 - at.place;
    }

    long roof() {
        List<Token> tokens = tokens(tape);
        tape = "";
        List<Integer> law = new ArrayList<>();
        List<Integer> winds = new ArrayList<>();
        List<Kite> kites = new ArrayList<>();
        int t = 0;
        while (true) {
            Token token = tokens.get(t);
            if (token.text.equals("end") && !kites.isEmpty()) {
                break;
            }
            String may = law.isEmpty() ? "r" : kites.isEmpty() ? "wbftlc" : "bftlc";
            if (token.text.length() != 1 || !may.contains(token.text)) {
                return fail(token, 1);
            }
            char letter = token.text.charAt(0);
            if (letter == 'w' && winds.size() == 6 || letter != 'w' && kites.size() == 6) {
                return fail(token, 3);
            }
            List<Integer> numbers = new ArrayList<>();
            for (int[] want : shape(letter)) {
                token = tokens.get(++t);
                if (want.length == 1 ? !token.text.equals("" + (char) want[0]) : !token.isNumber()) {
                    return fail(token, 1);
                }
                if (want.length == 2) {
                    int v = Integer.parseInt(token.text);
                    if (!in(v, want[0], want[1])) {
                        return fail(token, 2);
                    }
                    numbers.add(v);
                }
            }
            t++;
            if (letter == 'r') {
                law = numbers;
            } else if (letter == 'w') {
                winds.add(numbers.get(0));
            } else {
                kites.add(new Kite(SORTS.indexOf(letter), numbers.get(0), numbers.get(1), 't', 0, 0, 0));
            }
        }
        now = new State(law.get(0), law.get(1), 0, winds, kites);
        acts.clear();
        return kites.size();
    }

    long fault() {
        return fault;
    }

    long undo() {
        if (acts.isEmpty()) {
            return STATE;
        }
        now = acts.pop();
        return acts.size();
    }

    private void act(State next) {
        acts.push(now);
        if (acts.size() > 24) {
            acts.removeLast();
        }
        now = next;
    }

    // ---- what is done

    private boolean isPaper(int i) {
        return now != null && in(i, 0, now.kites.size() - 1);
    }

    private boolean isWind(int i) {
        return now != null && in(i, 0, now.winds.size() - 1);
    }

    long hours(int n) {
        if (now == null) {
            return STATE;
        }
        if (!in(n, 1, 24)) {
            return BAD;
        }
        if (now.hour + n > 999) {
            return FULL;
        }
        for (int h = 0; h < n; h++) {
            act(now.hours(1));
        }
        return now.policy();
    }

    long send(int paper, int out) {
        if (!isPaper(paper) || !in(out, 1, 40)) {
            return BAD;
        }
        Kite k = now.kites.get(paper);
        if (k.where != 't') {
            return STATE;
        }
        act(now.with(paper, k.up(0, out)));
        return now.bits(o -> o.where == 'u');
    }

    long let(int paper, int n) {
        if (!isPaper(paper) || !in(n, 1, 40) && !in(n, -40, -1)) {
            return BAD;
        }
        Kite k = now.kites.get(paper);
        if (k.where != 'u' || !in(k.out + n, 1, 40)) {
            return STATE;
        }
        act(now.with(paper, k.letTo(k.out + n)));
        return k.out + n;
    }

    long weigh(int paper, int v) {
        if (!isPaper(paper) || !in(v, 1, 60)) {
            return BAD;
        }
        Kite k = now.kites.get(paper);
        act(now.with(paper, k.with(k.kind, k.belly, v)));
        return k.weight;
    }

    long blow(int wind, int v) {
        if (!isWind(wind) || !in(v, 0, 9)) {
            return BAD;
        }
        int was = now.winds.get(wind);
        act(now.withWind(wind, v));
        return was;
    }

    long paper(int paper, int what) {
        if (!isPaper(paper) || !in(what, 0, 6)) {
            return BAD;
        }
        Kite k = now.kites.get(paper);
        return new long[] {k.belly, k.weight, "tus".indexOf(k.where), k.high, k.out, k.where == 's' ? k.cell : NONE,
            now.isPolicy(paper) ? 1 : 0}[what];
    }

    long force(int n) {
        if (now == null) {
            return STATE;
        }
        return in(n, 0, 60) ? now.forceOn(n) : BAD;
    }

    long stand(int what) {
        if (now == null) {
            return STATE;
        }
        if (!in(what, 0, 4)) {
            return BAD;
        }
        return new long[] {now.bits(k -> k.where == 'u'), now.policy(), now.bits(k -> k.where == 's'), now.stand, now.strong}[what];
    }

    // ---- foretold

    long ahead(int paper, int n, int what) {
        if (!isPaper(paper) || !in(n, 0, 60) || !in(what, 0, 2)) {
            return BAD;
        }
        Kite k = now.hours(n).kites.get(paper);
        return new long[] {k.high, k.out, k.where == 's' ? k.cell : NONE}[what];
    }

    long when(int paper, int how) {
        if (!isPaper(paper) || !in(how, 1, 2)) {
            return BAD;
        }
        for (int n = 0; n <= 60; n++) {
            State s = now.hours(n);
            if (how == 1 ? s.isPolicy(paper) : s.kites.get(paper).where == 's') {
                return n;
            }
        }
        return NONE;
    }

    long policy(int n) {
        if (now == null) {
            return STATE;
        }
        return in(n, 0, 60) ? now.hours(n).policy() : BAD;
    }

    long pull(int paper) {
        if (!isPaper(paper)) {
            return BAD;
        }
        return now.kites.get(paper).where == 'u' ? now.rise(paper, now.forceOn(0)) : STATE;
    }

    long sends(int n, int m, int what) {
        if (now == null) {
            return STATE;
        }
        if (!in(n, 1, 30) || !in(m, 1, 40) || !in(what, 0, 1)) {
            return BAD;
        }
        List<long[]> all = new ArrayList<>();
        int trays = now.bits(k -> k.where == 't');
        for (int bits = 0; bits < 64; bits++) {
            if ((bits | trays) != trays) {
                continue;
            }
            State s = now;
            for (int i = 0; i < 6; i++) {
                if ((bits & 1 << i) != 0) {
                    s = s.with(i, s.kites.get(i).up(0, m));
                }
            }
            all.add(new long[] {-Integer.bitCount(s.hours(n).policy()), Integer.bitCount(bits), bits});
        }
        all.sort(Arrays::compare);
        return what == 0 ? all.get(0)[2] : -all.get(0)[0];
    }

    /** The best row from here on, with how HIGH it is at its end; null if by none it is UP. */
    private static int[] bestLets(State s, int paper, int n) {
        Kite k = s.kites.get(paper);
        if (k.where != 'u') {
            return null;
        }
        if (n == 0) {
            return new int[] {k.high};
        }
        int[] best = null;
        int[] yards = {0, 5, 10, -5};
        for (int by = 0; by < 4; by++) {
            State let = s.with(paper, k.letTo(Math.min(40, Math.max(1, k.out + yards[by]))));
            int[] rest = bestLets(let.hours(1), paper, n - 1);
            if (rest != null && (best == null || rest[rest.length - 1] > best[best.length - 1])) {
                best = new int[rest.length + 1];
                best[0] = by;
                System.arraycopy(rest, 0, best, 1, rest.length);
            }
        }
        return best;
    }

    long lets(int paper, int n, int k) {
        if (!isPaper(paper) || !in(n, 1, 4) || k < -1) {
            return BAD;
        }
        if (now.kites.get(paper).where != 'u') {
            return STATE;
        }
        int[] best = bestLets(now, paper, n);
        if (best == null || k >= n) {
            return NONE;
        }
        return k == -1 ? best[n] : best[k];
    }

    long light(int paper, int n) {
        if (!isPaper(paper) || !in(n, 1, 30)) {
            return BAD;
        }
        long best = NONE;
        Kite k = now.kites.get(paper);
        for (int w = 1; w <= 60; w++) {
            if (now.with(paper, k.with(k.kind, k.belly, w)).hours(n).isPolicy(paper)) {
                best = w;
            }
        }
        return best;
    }

    long gust(int paper) {
        if (!isPaper(paper)) {
            return BAD;
        }
        if (now.kites.get(paper).where != 'u') {
            return STATE;
        }
        for (int force = 0; force < 100; force++) {
            if (now.hourIn(force).kites.get(paper).where == 's') {
                return force;
            }
        }
        return NONE;
    }

    long quarrels(int what) {
        if (now == null) {
            return STATE;
        }
        if (!in(what, 0, 1)) {
            return BAD;
        }
        List<Integer> pairs = new ArrayList<>();
        for (int a = 0; a < now.kites.size(); a++) {
            for (int b = 0; b < now.kites.size(); b++) {
                Kite one = now.kites.get(a);
                Kite other = now.kites.get(b);
                if (a < b && one.where == 's' && other.where == 's' && one.cell == other.cell) {
                    pairs.add(10 * a + b);
                }
            }
        }
        return what == 0 ? pairs.size() : pairs.isEmpty() ? NONE : pairs.get(0);
    }

    private long findingOf(int row, int i, int n) {
        if (rows[row] == null) {
            return found(1);
        }
        return outside(rows[row], i, n) ? found(2) : fine(0);
    }

    private List<Integer> fitting(int paper, int from, int to, int[] seen, UnaryStates by) {
        List<Integer> fit = new ArrayList<>();
        for (int v = from; v <= to; v++) {
            State s = by.of(v);
            int[] high = new int[seen.length];
            for (int h = 0; h < seen.length; h++) {
                high[h] = s.hours(h + 1).kites.get(paper).high;
            }
            if (Arrays.equals(high, seen)) {
                fit.add(v);
            }
        }
        return fit;
    }

    private interface UnaryStates {
        State of(int v);
    }

    private static long asBits(List<Integer> fit) {
        return fit.stream().mapToLong(v -> 1L << v).sum();
    }

    private static long told(List<Integer> fit, int how) {
        if (how == 0) {
            return fit.size();
        }
        return fit.isEmpty() ? NONE : fit.get(how == 1 ? 0 : fit.size() - 1);
    }

    long who(int paper, int which, int row, int i, int n) {
        if (!isPaper(paper) || !in(which, 0, 4) || !in(row, 0, 7) || !in(n, 1, 12)) {
            return BAD;
        }
        long finding = findingOf(row, i, n);
        if (finding != 0) {
            return finding;
        }
        int[] seen = Arrays.copyOfRange(rows[row], i, i + n);
        Kite k = now.kites.get(paper);
        if (which == 0) {
            return asBits(fitting(paper, 1, 5, seen, v -> now.with(paper, k.with(v, k.belly, k.weight))));
        }
        if (which == 1) {
            return asBits(fitting(paper, 0, 9, seen, v -> now.with(paper, k.with(k.kind, v, k.weight))));
        }
        return told(fitting(paper, 1, 60, seen, v -> now.with(paper, k.with(k.kind, k.belly, v))), which - 2);
    }

    long winds(int paper, int wind, int row, int i, int n) {
        if (!isPaper(paper) || !isWind(wind) || !in(row, 0, 7) || !in(n, 1, 12)) {
            return BAD;
        }
        long finding = findingOf(row, i, n);
        if (finding != 0) {
            return finding;
        }
        return asBits(fitting(paper, 0, 9, Arrays.copyOfRange(rows[row], i, i + n), v -> now.withWind(wind, v)));
    }

    long tapes(int paper, int which, int row, int i, int n) {
        if (!isPaper(paper) || !in(which, 0, 1) || !in(row, 0, 7) || !in(n, 1, 12)) {
            return BAD;
        }
        long finding = findingOf(row, i, n);
        if (finding != 0) {
            return finding;
        }
        return told(fitting(paper, 1, 99, Arrays.copyOfRange(rows[row], i, i + n), v -> now.withStrong(v)), which);
    }

    private static BigInteger cases(State s, int paper, int n, int p) {
        if (n == 0) {
            return s.isPolicy(paper) ? BigInteger.ONE : BigInteger.ZERO;
        }
        return cases(s.hourIn(0), paper, n - 1, p).multiply(BigInteger.valueOf(p))
            .add(cases(s.hours(1), paper, n - 1, p).multiply(BigInteger.valueOf(10 - p)));
    }

    long calm(int paper, int n, int p, int what) {
        if (!isPaper(paper) || !in(n, 0, 8) || !in(p, 0, 10) || !in(what, 0, 1)) {
            return BAD;
        }
        BigInteger above = cases(now, paper, n, p);
        BigInteger below = BigInteger.TEN.pow(n);
        return (what == 0 ? above : below).divide(above.gcd(below)).longValueExact();
    }

    long drawn(int n, int seed, int what) {
        if (now == null) {
            return STATE;
        }
        if (!in(n, 0, 60) || !in(seed, 1, 999999) || !in(what, 0, 1)) {
            return BAD;
        }
        State s = now;
        BigInteger x = BigInteger.valueOf(seed);
        for (int h = 0; h < n; h++) {
            x = x.multiply(BigInteger.valueOf(16807)).mod(BigInteger.valueOf(2147483647));
            int v = x.intValueExact();
            int i = v % s.kites.size();
            Kite k = s.kites.get(i);
            UnaryOperator<Kite> by = k.where == 't' ? o -> o.up(0, v % 40 + 1)
                : k.where == 'u' && v % 2 == 0 ? o -> o.letTo(Math.min(40, o.out + 5)) : o -> o;
            s = s.with(i, by.apply(k)).hourIn(v % 10);
        }
        return Integer.bitCount(what == 0 ? s.policy() : s.bits(k -> k.where == 's'));
    }

    long image(int k) {
        if (!in(k, 0, 1)) {
            return BAD;
        }
        if (now == null) {
            return STATE;
        }
        images[k] = now;
        return 1;
    }

    long restore(int k) {
        if (!in(k, 0, 1)) {
            return BAD;
        }
        if (images[k] == null) {
            return STATE;
        }
        now = images[k];
        acts.clear();
        return 1;
    }

    // ---- asked

    /** ASKS as Java itself tells them: a BODY lent by an interface, others in classes above one another. */
    private interface Asked {
        Model model();

        Kite kite();

        int number();

        default long size() {
            model().trace.add(10);
            return kite().weight;
        }

        default long mark() {
            model().trace.add(20);
            return number();
        }
    }

    private abstract static class AnyPaper implements Asked {
        private final Model model;
        private final Kite kite;
        private final int number;

        AnyPaper(Model model, Kite kite, int number) {
            this.model = model;
            this.kite = kite;
            this.number = number;
        }

        public Model model() {
            return model;
        }

        public Kite kite() {
            return kite;
        }

        public int number() {
            return number;
        }
    }

    private static class Bill extends AnyPaper {
        Bill(Model model, Kite kite, int number) {
            super(model, kite, number);
        }

        public long size() {
            model().trace.add(11);
            return super.size() + mark();
        }

        public long mark() {
            model().trace.add(21);
            return super.mark() + kite().high;
        }
    }

    private static final class Finance extends Bill {
        Finance(Model model, Kite kite, int number) {
            super(model, kite, number);
        }

        public long size() {
            model().trace.add(12);
            return -super.size();
        }

        public long mark() {
            model().trace.add(24);
            return 2 * super.mark();
        }
    }

    private static final class Treaty extends Bill {
        Treaty(Model model, Kite kite, int number) {
            super(model, kite, number);
        }

        public long mark() {
            model().trace.add(22);
            return super.mark() - 1000;
        }
    }

    private static class Leaflet extends AnyPaper {
        Leaflet(Model model, Kite kite, int number) {
            super(model, kite, number);
        }

        public long size() {
            model().trace.add(13);
            return super.size() - 100;
        }

        public long mark() {
            model().trace.add(23);
            return super.mark() - size();
        }
    }

    private static final class Clouded extends Leaflet {
        Clouded(Model model, Kite kite, int number) {
            super(model, kite, number);
        }

        public long size() {
            model().trace.add(14);
            return 2 * super.size();
        }
    }

    private AnyPaper made(int i) {
        Kite k = now.kites.get(i);
        switch (k.kind) {
            case 1: return new Bill(this, k, i);
            case 2: return new Finance(this, k, i);
            case 3: return new Treaty(this, k, i);
            case 4: return new Leaflet(this, k, i);
            default: return new Clouded(this, k, i);
        }
    }

    long kind(int one) {
        return isPaper(one) ? now.kites.get(one).kind : BAD;
    }

    long as(int one, int kind) {
        if (!isPaper(one) || !in(kind, 0, 5)) {
            return BAD;
        }
        Class<?>[] kinds = {AnyPaper.class, Bill.class, Finance.class, Treaty.class, Leaflet.class, Clouded.class};
        return kinds[kind].isInstance(made(one)) ? fine(one) : found(3);
    }

    long ask(int one, int what) {
        if (!isPaper(one) || !in(what, 0, 1)) {
            return BAD;
        }
        trace.clear();
        return what == 0 ? made(one).size() : made(one).mark();
    }

    long trace(int i) {
        return in(i, 0, Math.min(16, trace.size()) - 1) ? trace.get(i) : NONE;
    }

    long count(int what) {
        if (!in(what, 0, 7)) {
            return BAD;
        }
        if (what == 0) {
            return Arrays.stream(rows).filter(r -> r != null).count();
        }
        if (what >= 6) {
            return what == 6 ? acts.size() : tape.length();
        }
        if (now == null) {
            return 0;
        }
        return new long[] {0, now.kites.size(), now.winds.size(), now.hour, Long.bitCount(now.bits(k -> k.where == 'u')),
            Long.bitCount(now.bits(k -> k.where == 's'))}[what];
    }

    long status() {
        return status;
    }
}
