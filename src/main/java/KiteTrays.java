/** Papers that are sent up from a ministry's roof, what becomes of them, and what can be foretold of it. */
public final class KiteTrays {
    public static final int NONE = -1000000, BAD = -1000001, STATE = -1000002, FULL = -1000003;

    private static final int FINDINGS = -1000010, FAULTS = -1000100;
    private static final int ROW_MISSING = 1, NO_PLACE = 2, NOT_THAT_KIND = 3, FEWER_THAN_NONE = 4, TWO_LANES = 5;

    private static final int ROWS = 8, ITEMS = 40, LANES = 3, BYTES_LANE = 0, SHORTS_LANE = 1;
    private static final int TAPE_BYTES = 100, WINDS = 6, PAPERS = 6, ACTS = 24, IMAGES = 2, TRACED = 16;
    private static final int YARDS = 40, CELLS = 16, LAST_HOUR = 999, FORETOLD_HOURS = 60;
    private static final int MOST_FORCE = 9, MOST_BELLY = 9, MOST_WEIGHT = 60, MOST_STRONG = 99, MOST_GUST = 99;

    private static final int IN_TRAY = 0, UP = 1, SNAPPED = 2;
    private static final int PAPER = 0, BILL = 1, FINANCE = 2, TREATY = 3, LEAFLET = 4, CLOUDED = 5, KINDS = 6;

    private final Row[] rows = new Row[ROWS];
    private final Tape tape = new Tape();
    private final Foretelling foretelling = new Foretelling();
    private final Roof now = foretelling.now;
    private final Roof draft = foretelling.draft;
    private final Acts acts = new Acts();
    private final Roof[] images = new Roof[IMAGES];
    private final Asking asking = new Asking();
    private int latestFault = 0;
    private int latestFinding = 0;

    public KiteTrays() {
        for (int i = 0; i < ROWS; i++) {
            rows[i] = new Row();
        }
        for (int i = 0; i < IMAGES; i++) {
            images[i] = new Roof();
        }
    }

    // ---- rows

    public int row(int row, int lane, int n) {
        if (!isRow(row) || !isWithin(lane, 0, LANES - 1) || n > ITEMS) {
            return BAD;
        }
        if (n < 0) {
            return found(FEWER_THAN_NONE);
        }
        rows[row].begin(lane, n);
        return unfound(n);
    }

    public int set(int row, int i, int v) {
        if (!isRow(row)) {
            return BAD;
        }
        Row items = rows[row];
        if (items.isMissing()) {
            return found(ROW_MISSING);
        }
        if (!items.hasPlaces(i, 1)) {
            return found(NO_PLACE);
        }
        return unfound(items.put(i, v));
    }

    public int copy(int a, int i, int b, int j, int n) {
        if (!isRow(a) || !isRow(b)) {
            return BAD;
        }
        Row from = rows[a];
        Row to = rows[b];
        if (from.isMissing() || to.isMissing()) {
            return found(ROW_MISSING);
        }
        if (from.lane != to.lane) {
            return found(TWO_LANES);
        }
        if (!from.hasPlaces(i, n) || !to.hasPlaces(j, n)) {
            return found(NO_PLACE);
        }
        System.arraycopy(from.items, i, to.items, j, n);
        return unfound(n);
    }

    public int drop(int row) {
        if (!isRow(row)) {
            return BAD;
        }
        Row items = rows[row];
        if (items.isMissing()) {
            return found(ROW_MISSING);
        }
        int had = items.size;
        items.end();
        return unfound(had);
    }

    // ---- what is told

    public int feed(int letter) {
        if (!isWithin(letter, 0, 255)) {
            return BAD;
        }
        if (tape.size >= TAPE_BYTES) {
            return FULL;
        }
        tape.append(letter);
        return tape.size;
    }

    public int roof() {
        boolean isSound = tape.readInto(draft);
        tape.size = 0;
        if (!isSound) {
            latestFault = tape.faultNumber;
            return FAULTS - tape.place;
        }
        now.become(draft);
        acts.forget();
        return now.paperCount;
    }

    public int fault() {
        return latestFault;
    }

    public int undo() {
        if (acts.many == 0) {
            return STATE;
        }
        acts.takeBack(now);
        return acts.many;
    }

    // ---- what is done

    public int hours(int n) {
        if (!now.isRead()) {
            return STATE;
        }
        if (!isWithin(n, 1, 24)) {
            return BAD;
        }
        if (now.hour + n > LAST_HOUR) {
            return FULL;
        }
        for (int h = 0; h < n; h++) {
            acts.keep(now);
            now.passHourIn(now.forceAfter(0));
        }
        return now.policyBits();
    }

    public int send(int paper, int out) {
        if (!now.hasPaper(paper) || !isWithin(out, 1, YARDS)) {
            return BAD;
        }
        Paper one = now.papers[paper];
        if (one.how != IN_TRAY) {
            return STATE;
        }
        acts.keep(now);
        one.rise(out);
        return now.bitsOf(UP);
    }

    public int let(int paper, int n) {
        if (!now.hasPaper(paper) || n == 0 || !isWithin(n, -YARDS, YARDS)) {
            return BAD;
        }
        Paper one = now.papers[paper];
        if (!one.isUp() || !isWithin(one.out + n, 1, YARDS)) {
            return STATE;
        }
        acts.keep(now);
        one.letOutBy(n);
        return one.out;
    }

    public int weigh(int paper, int v) {
        if (!now.hasPaper(paper) || !isWithin(v, 1, MOST_WEIGHT)) {
            return BAD;
        }
        acts.keep(now);
        int was = now.papers[paper].weight;
        now.papers[paper].weight = v;
        return was;
    }

    public int blow(int wind, int v) {
        if (!now.hasWind(wind) || !isWithin(v, 0, MOST_FORCE)) {
            return BAD;
        }
        acts.keep(now);
        int was = now.forces[wind];
        now.forces[wind] = v;
        return was;
    }

    public int paper(int paper, int what) {
        if (!now.hasPaper(paper)) {
            return BAD;
        }
        Paper one = now.papers[paper];
        switch (what) {
            case 0: return one.belly;
            case 1: return one.weight;
            case 2: return one.how;
            case 3: return one.high;
            case 4: return one.out;
            case 5: return one.cell;
            case 6: return now.isPolicy(paper) ? 1 : 0;
            default: return BAD;
        }
    }

    public int force(int n) {
        if (!now.isRead()) {
            return STATE;
        }
        if (!isWithin(n, 0, FORETOLD_HOURS)) {
            return BAD;
        }
        return now.forceAfter(n);
    }

    public int stand(int what) {
        if (!now.isRead()) {
            return STATE;
        }
        switch (what) {
            case 0: return now.bitsOf(UP);
            case 1: return now.policyBits();
            case 2: return now.bitsOf(SNAPPED);
            case 3: return now.standYards;
            case 4: return now.strong;
            default: return BAD;
        }
    }

    // ---- foretold

    public int ahead(int paper, int n, int what) {
        if (!now.hasPaper(paper) || !isWithin(n, 0, FORETOLD_HOURS) || !isWithin(what, 0, 2)) {
            return BAD;
        }
        foretelling.draftAhead(n);
        Paper one = draft.papers[paper];
        if (what == 0) {
            return one.high;
        }
        return what == 1 ? one.out : one.cell;
    }

    public int when(int paper, int how) {
        if (!now.hasPaper(paper) || !isWithin(how, 1, 2)) {
            return BAD;
        }
        return foretelling.firstHour(paper, how == 2);
    }

    public int policy(int n) {
        if (!now.isRead()) {
            return STATE;
        }
        if (!isWithin(n, 0, FORETOLD_HOURS)) {
            return BAD;
        }
        foretelling.draftAhead(n);
        return draft.policyBits();
    }

    public int pull(int paper) {
        if (!now.hasPaper(paper)) {
            return BAD;
        }
        if (!now.papers[paper].isUp()) {
            return STATE;
        }
        return now.riseOf(paper, now.forceAfter(0));
    }

    public int sends(int n, int m, int what) {
        if (!now.isRead()) {
            return STATE;
        }
        if (!isWithin(n, 1, 30) || !isWithin(m, 1, YARDS) || !isWithin(what, 0, 1)) {
            return BAD;
        }
        return foretelling.bestToSend(n, m, what == 1);
    }

    public int lets(int paper, int n, int k) {
        if (!now.hasPaper(paper) || !isWithin(n, 1, 4) || k < -1) {
            return BAD;
        }
        if (!now.papers[paper].isUp()) {
            return STATE;
        }
        return foretelling.bestLetting(paper, n, k);
    }

    public int light(int paper, int n) {
        if (!now.hasPaper(paper) || !isWithin(n, 1, 30)) {
            return BAD;
        }
        return foretelling.greatestWeight(paper, n);
    }

    public int gust(int paper) {
        if (!now.hasPaper(paper)) {
            return BAD;
        }
        if (!now.papers[paper].isUp()) {
            return STATE;
        }
        return foretelling.leastSnappingForce(paper);
    }

    public int quarrels(int what) {
        if (!now.isRead()) {
            return STATE;
        }
        switch (what) {
            case 0: return now.quarrelCount();
            case 1: return now.firstQuarrel();
            default: return BAD;
        }
    }

    public int who(int paper, int which, int row, int i, int n) {
        if (!now.hasPaper(paper) || !isWithin(which, 0, 4) || !isRow(row) || !isWithin(n, 1, 12)) {
            return BAD;
        }
        int finding = watchRow(paper, row, i, n);
        if (finding != 0) {
            return found(finding);
        }
        return unfound(foretelling.fittingPapers(which));
    }

    public int winds(int paper, int wind, int row, int i, int n) {
        if (!now.hasPaper(paper) || !now.hasWind(wind) || !isRow(row) || !isWithin(n, 1, 12)) {
            return BAD;
        }
        int finding = watchRow(paper, row, i, n);
        if (finding != 0) {
            return found(finding);
        }
        return unfound(foretelling.fittingForces(wind));
    }

    public int tapes(int paper, int which, int row, int i, int n) {
        if (!now.hasPaper(paper) || !isWithin(which, 0, 1) || !isRow(row) || !isWithin(n, 1, 12)) {
            return BAD;
        }
        int finding = watchRow(paper, row, i, n);
        if (finding != 0) {
            return found(finding);
        }
        return unfound(foretelling.fittingTapes(which));
    }

    public long calm(int paper, int n, int p, int what) {
        if (!now.hasPaper(paper) || !isWithin(n, 0, 8) || !isWithin(p, 0, 10) || !isWithin(what, 0, 1)) {
            return BAD;
        }
        long above = foretelling.calmCases(paper, n, p);
        long below = power(10, n);
        long shared = greatestDivisor(above, below);
        if (shared == 0) {
            return BAD;
        }
        return (what == 0 ? above : below) / shared;
    }

    public int drawn(int n, int seed, int what) {
        if (!now.isRead()) {
            return STATE;
        }
        if (!isWithin(n, 0, FORETOLD_HOURS) || !isWithin(seed, 1, 999999) || !isWithin(what, 0, 1)) {
            return BAD;
        }
        foretelling.draftYears(n, seed);
        return Integer.bitCount(what == 0 ? draft.policyBits() : draft.bitsOf(SNAPPED));
    }

    public int image(int k) {
        if (!isWithin(k, 0, IMAGES - 1)) {
            return BAD;
        }
        if (!now.isRead()) {
            return STATE;
        }
        images[k].become(now);
        return 1;
    }

    public int restore(int k) {
        if (!isWithin(k, 0, IMAGES - 1)) {
            return BAD;
        }
        if (!images[k].isRead()) {
            return STATE;
        }
        now.become(images[k]);
        acts.forget();
        return 1;
    }

    // ---- asked

    public int kind(int one) {
        if (!now.hasPaper(one)) {
            return BAD;
        }
        return now.papers[one].sort;
    }

    public int as(int one, int kind) {
        if (!now.hasPaper(one) || !isWithin(kind, 0, KINDS - 1)) {
            return BAD;
        }
        if (!now.papers[one].isOf(kind)) {
            return found(NOT_THAT_KIND);
        }
        return unfound(one);
    }

    public int ask(int one, int what) {
        if (!now.hasPaper(one) || !isWithin(what, 0, 1)) {
            return BAD;
        }
        Paper asked = now.papers[one];
        return asking.begin(what == 0 ? asked.sizeBody() : asked.markBody(), asked, one);
    }

    public int trace(int i) {
        return asking.traced(i);
    }

    public int count(int what) {
        switch (what) {
            case 0: return rowCount();
            case 1: return now.paperCount;
            case 2: return now.windCount;
            case 3: return now.hour;
            case 4: return Integer.bitCount(now.bitsOf(UP));
            case 5: return Integer.bitCount(now.bitsOf(SNAPPED));
            case 6: return acts.many;
            case 7: return tape.size;
            default: return BAD;
        }
    }

    public int status() {
        return latestFinding;
    }

    // ---- helpers

    private int found(int finding) {
        latestFinding = finding;
        return FINDINGS - finding;
    }

    private int unfound(int answer) {
        latestFinding = 0;
        return answer;
    }

    /** The number of the FINDING that keeps it from being watched, or 0. */
    private int watchRow(int paper, int row, int i, int n) {
        if (rows[row].isMissing()) {
            return ROW_MISSING;
        }
        if (!rows[row].hasPlaces(i, n)) {
            return NO_PLACE;
        }
        foretelling.watch(paper, rows[row], i, n);
        return 0;
    }

    private static boolean isRow(int row) {
        return isWithin(row, 0, ROWS - 1);
    }

    private int rowCount() {
        int many = 0;
        for (int i = 0; i < ROWS; i++) {
            if (!rows[i].isMissing()) {
                many++;
            }
        }
        return many;
    }

    private static boolean isWithin(int v, int least, int most) {
        return v >= least && v <= most;
    }

    private static long power(long base, int n) {
        long product = 1;
        for (int i = 0; i < n; i++) {
            product *= base;
        }
        return product;
    }

    private static long greatestDivisor(long a, long b) {
        // Euclid's steps over longs are fewer than 100.
        for (int step = 0; step < 100 && b != 0; step++) {
            long rest = a % b;
            a = b;
            b = rest;
        }
        return a;
    }

    /** A ROW; one object serves all the ROWS that come in its place. */
    static final class Row {
        private static final int MISSING = -1;

        int lane = MISSING;
        int size = 0;
        final int[] items = new int[ITEMS];

        boolean isMissing() {
            return lane == MISSING;
        }

        void begin(int ofLane, int n) {
            lane = ofLane;
            size = n;
            for (int i = 0; i < ITEMS; i++) {
                items[i] = 0;
            }
        }

        void end() {
            lane = MISSING;
            size = 0;
        }

        boolean hasPlaces(int i, int n) {
            // i + n could wrap around; size - n cannot, as n is not below 0.
            return i >= 0 && n >= 0 && i <= size - n;
        }

        int put(int i, int v) {
            items[i] = cut(v);
            return items[i];
        }

        private int cut(int v) {
            if (lane == BYTES_LANE) {
                return (byte) v;
            }
            return lane == SHORTS_LANE ? (short) v : v;
        }
    }

    /** A PAPER. HIGH and OUT are 0 unless it is UP, CELL is NONE unless it has SNAPPED. */
    static final class Paper {
        int sort = BILL;
        int belly = 0;
        int weight = 1;
        int how = IN_TRAY;
        int high = 0;
        int out = 0;
        int cell = NONE;

        void become(Paper other) {
            sort = other.sort;
            belly = other.belly;
            weight = other.weight;
            how = other.how;
            high = other.high;
            out = other.out;
            cell = other.cell;
        }

        boolean isUp() {
            return how == UP;
        }

        boolean isOf(int wanted) {
            return wanted == PAPER || wanted == sort || wanted == kindAbove(sort);
        }

        private static int kindAbove(int kind) {
            switch (kind) {
                case FINANCE: return BILL;
                case TREATY: return BILL;
                case CLOUDED: return LEAFLET;
                default: return PAPER;
            }
        }

        int sizeBody() {
            switch (sort) {
                case FINANCE: return 12;
                case LEAFLET: return 13;
                case CLOUDED: return 14;
                default: return isOf(BILL) ? 11 : 10;
            }
        }

        int markBody() {
            switch (sort) {
                case FINANCE: return 24;
                case TREATY: return 22;
                case BILL: return 21;
                default: return isOf(LEAFLET) ? 23 : 20;
            }
        }

        void settle(int asIs, int inCell) {
            how = asIs;
            high = 0;
            out = 0;
            cell = inCell;
        }

        void rise(int yards) {
            how = UP;
            high = 0;
            out = yards;
            cell = NONE;
        }

        void letOutBy(int yards) {
            out = Math.max(1, Math.min(YARDS, out + yards));
            high = Math.min(high, out);
        }

        int liftIn(int wind, boolean isPaired) {
            int asBill = belly * wind;
            int asLeaflet = 4 * wind;
            switch (sort) {
                case FINANCE: return high >= 20 ? asBill : asBill / 2;
                case TREATY: return isPaired ? 2 * asBill : asBill;
                case LEAFLET: return asLeaflet;
                case CLOUDED: return high >= 30 ? Math.max(30, asLeaflet) : asLeaflet;
                default: return asBill;
            }
        }

        boolean snapsBy(int yards, int strong) {
            return yards > 0 && high + yards > out + strong;
        }

        void moveBy(int yards, int strong, int numberAndForce) {
            if (snapsBy(yards, strong)) {
                settle(SNAPPED, (numberAndForce + out) % CELLS);
                return;
            }
            high = Math.min(high + yards, out);
            // One that stays at 0 is UP yet; only one that comes down is in its TRAY.
            if (yards < 0 && high <= 0) {
                settle(IN_TRAY, NONE);
            }
        }
    }

    /** A ROOF. One that is read has a PAPER at least, so one without any is no ROOF yet. */
    static final class Roof {
        int standYards = 1;
        int strong = 1;
        int hour = 0;
        int windCount = 0;
        int paperCount = 0;
        final int[] forces = new int[WINDS];
        final Paper[] papers = new Paper[PAPERS];

        Roof() {
            for (int i = 0; i < PAPERS; i++) {
                papers[i] = new Paper();
            }
        }

        boolean isRead() {
            return paperCount > 0;
        }

        boolean hasPaper(int i) {
            return i >= 0 && i < paperCount;
        }

        boolean hasWind(int i) {
            return i >= 0 && i < windCount;
        }

        void become(Roof other) {
            standYards = other.standYards;
            strong = other.strong;
            hour = other.hour;
            windCount = other.windCount;
            paperCount = other.paperCount;
            for (int i = 0; i < windCount; i++) {
                forces[i] = other.forces[i];
            }
            for (int i = 0; i < paperCount; i++) {
                papers[i].become(other.papers[i]);
            }
        }

        int forceAfter(int n) {
            return windCount > 0 ? forces[(hour + n) % windCount] : 0;
        }

        int riseOf(int i, int wind) {
            return papers[i].liftIn(wind, isPaired()) - papers[i].weight;
        }

        private boolean isPaired() {
            int treaties = 0;
            for (int i = 0; i < paperCount; i++) {
                if (papers[i].isUp() && papers[i].sort == TREATY) {
                    treaties++;
                }
            }
            return treaties > 1;
        }

        void passHourIn(int wind) {
            // Of the others a PAPER feels only whether treaties are paired: that is looked at before any moves.
            boolean isPaired = isPaired();
            for (int i = 0; i < paperCount; i++) {
                if (papers[i].isUp()) {
                    papers[i].moveBy(papers[i].liftIn(wind, isPaired) - papers[i].weight, strong, i + wind);
                }
            }
            hour++;
        }

        boolean isPolicy(int i) {
            return papers[i].isUp() && papers[i].high >= standYards;
        }

        int policyBits() {
            int bits = 0;
            for (int i = 0; i < paperCount; i++) {
                if (isPolicy(i)) {
                    bits |= 1 << i;
                }
            }
            return bits;
        }

        int bitsOf(int how) {
            int bits = 0;
            for (int i = 0; i < paperCount; i++) {
                if (papers[i].how == how) {
                    bits |= 1 << i;
                }
            }
            return bits;
        }

        void sendAll(int bits, int yards) {
            for (int i = 0; i < paperCount; i++) {
                if ((bits >> i & 1) == 1) {
                    papers[i].rise(yards);
                }
            }
        }

        int quarrelCount() {
            int many = 0;
            for (int i = 0; i < paperCount; i++) {
                for (int j = i + 1; j < paperCount; j++) {
                    if (quarrel(i, j)) {
                        many++;
                    }
                }
            }
            return many;
        }

        int firstQuarrel() {
            for (int i = 0; i < paperCount; i++) {
                for (int j = i + 1; j < paperCount; j++) {
                    if (quarrel(i, j)) {
                        return 10 * i + j;
                    }
                }
            }
            return NONE;
        }

        private boolean quarrel(int i, int j) {
            return papers[i].how == SNAPPED && papers[j].how == SNAPPED && papers[i].cell == papers[j].cell;
        }
    }

    /** The ROOFS as they were ahead of each ACT that can be undone. */
    static final class Acts {
        final Roof[] kept = new Roof[ACTS];
        int next = 0;
        int many = 0;

        Acts() {
            for (int i = 0; i < ACTS; i++) {
                kept[i] = new Roof();
            }
        }

        void keep(Roof roof) {
            kept[next].become(roof);
            next = (next + 1) % ACTS;
            many = Math.min(many + 1, ACTS);
        }

        void takeBack(Roof roof) {
            next = (next + ACTS - 1) % ACTS;
            many = Math.max(many - 1, 0);
            roof.become(kept[next]);
        }

        void forget() {
            many = 0;
        }
    }

    /** THE TAPE, and how it is read: each step stays at the first byte of the TOKEN that has a FAULT. */
    static final class Tape {
        private static final int END = -1, NO_NUMBER = -1;
        private static final int MISPLACED = 1, OUT_OF_RANGE = 2, NO_ROOM = 3;

        final int[] bytes = new int[TAPE_BYTES];
        int size = 0;
        int place = 0;
        int faultNumber = 0;

        void append(int letter) {
            if (size < TAPE_BYTES) {
                bytes[size] = letter;
                size++;
            }
        }

        boolean readInto(Roof roof) {
            place = 0;
            faultNumber = 0;
            roof.hour = 0;
            roof.windCount = 0;
            roof.paperCount = 0;
            return readLaw(roof) && readWinds(roof) && readPapers(roof) && takeEnd();
        }

        private boolean readLaw(Roof roof) {
            if (!take('r')) {
                return false;
            }
            roof.standYards = takeNumber(1, YARDS);
            if (roof.standYards == NO_NUMBER || !take(',')) {
                return false;
            }
            roof.strong = takeNumber(1, MOST_STRONG);
            return roof.strong != NO_NUMBER && take(';');
        }

        private boolean readWinds(Roof roof) {
            for (int i = 0; i <= WINDS && next() == 'w'; i++) {
                if (i == WINDS) {
                    return hasFault(NO_ROOM);
                }
                place++;
                int wind = takeNumber(0, MOST_FORCE);
                if (wind == NO_NUMBER || !take(';')) {
                    return false;
                }
                roof.forces[i] = wind;
                roof.windCount = i + 1;
            }
            return true;
        }

        private boolean readPapers(Roof roof) {
            for (int i = 0; i <= PAPERS && sortOf(next()) != PAPER; i++) {
                if (i == PAPERS) {
                    return hasFault(NO_ROOM);
                }
                if (!readPaper(roof.papers[i])) {
                    return false;
                }
                roof.paperCount = i + 1;
            }
            return roof.paperCount > 0 || hasFault(MISPLACED);
        }

        private boolean readPaper(Paper paper) {
            paper.sort = sortOf(next());
            place++;
            paper.belly = takeNumber(0, MOST_BELLY);
            if (paper.belly == NO_NUMBER || !take(',')) {
                return false;
            }
            paper.weight = takeNumber(1, MOST_WEIGHT);
            paper.settle(IN_TRAY, NONE);
            return paper.weight != NO_NUMBER && take(';');
        }

        private static int sortOf(int letter) {
            switch (letter) {
                case 'b': return BILL;
                case 'f': return FINANCE;
                case 't': return TREATY;
                case 'l': return LEAFLET;
                case 'c': return CLOUDED;
                default: return PAPER;
            }
        }

        private int next() {
            return byteAt(place);
        }

        private int byteAt(int i) {
            return i >= 0 && i < size && i < TAPE_BYTES ? bytes[i] : END;
        }

        private boolean take(int sign) {
            if (next() != sign) {
                return hasFault(MISPLACED);
            }
            place++;
            return true;
        }

        private boolean takeEnd() {
            return next() == END || hasFault(MISPLACED);
        }

        private int takeNumber(int least, int most) {
            int figures = figuresHere();
            if (figures < 1 || figures > 2) {
                hasFault(MISPLACED);
                return NO_NUMBER;
            }
            int v = next() - '0';
            if (figures == 2) {
                v = 10 * v + byteAt(place + 1) - '0';
            }
            if (v < least || v > most) {
                hasFault(OUT_OF_RANGE);
                return NO_NUMBER;
            }
            place += figures;
            return v;
        }

        private int figuresHere() {
            int many = 0;
            // Three figures are as wrong as more.
            while (many < 3 && isFigure(byteAt(place + many))) {
                many++;
            }
            return many;
        }

        private static boolean isFigure(int letter) {
            return letter >= '0' && letter <= '9';
        }

        private boolean hasFault(int number) {
            faultNumber = number;
            return false;
        }
    }

    /** What is foretold of the ROOF as it is now: all is tried on a draft of it. */
    static final class Foretelling {
        private static final int SORT_OF = 0, BELLY_OF = 1, WEIGHT_OF = 2, FORCE_OF = 3, STRONG_OF = 4;
        private static final int LETTINGS = 4;

        final Roof now = new Roof();
        final Roof draft = new Roof();
        int watched = 0;
        Row seen = null;
        int seenFrom = 0;
        int seenHours = 0;
        int fittingBits = 0;
        int fittingMany = 0;
        int fittingLeast = NONE;
        int fittingGreatest = NONE;

        void draftAhead(int n) {
            draft.become(now);
            passDraft(n);
        }

        private void passDraft(int n) {
            for (int h = 0; h < n; h++) {
                draft.passHourIn(draft.forceAfter(0));
            }
        }

        int firstHour(int paper, boolean isToSnap) {
            draft.become(now);
            for (int h = 0; h <= FORETOLD_HOURS; h++) {
                if (isToSnap ? draft.papers[paper].how == SNAPPED : draft.isPolicy(paper)) {
                    return h;
                }
                draft.passHourIn(draft.forceAfter(0));
            }
            return NONE;
        }

        int bestToSend(int n, int yards, boolean isCountAsked) {
            int inTrays = now.bitsOf(IN_TRAY);
            int best = 0;
            int most = -1;
            for (int bits = 0; bits < 1 << PAPERS; bits++) {
                if ((bits & ~inTrays) != 0) {
                    continue;
                }
                draft.become(now);
                draft.sendAll(bits, yards);
                passDraft(n);
                int many = Integer.bitCount(draft.policyBits());
                boolean isFewer = Integer.bitCount(bits) < Integer.bitCount(best);
                if (many > most || many == most && isFewer) {
                    most = many;
                    best = bits;
                }
            }
            return isCountAsked ? most : best;
        }

        int bestLetting(int paper, int n, int k) {
            int rows = 1 << 2 * n;
            int best = 0;
            int highest = -1;
            for (int code = 0; code < rows; code++) {
                int high = highBy(code, paper, n);
                if (high > highest) {
                    highest = high;
                    best = code;
                }
            }
            if (highest < 0 || k >= n) {
                return NONE;
            }
            return k < 0 ? highest : lettingAt(best, n, k);
        }

        private int highBy(int code, int paper, int n) {
            draft.become(now);
            Paper one = draft.papers[paper];
            for (int h = 0; h < n && one.isUp(); h++) {
                one.letOutBy(yardsOf(lettingAt(code, n, h)));
                draft.passHourIn(draft.forceAfter(0));
            }
            return one.isUp() ? one.high : -1;
        }

        private static int lettingAt(int code, int n, int k) {
            // The first HOUR weighs most, so that lesser codes are rows that come first.
            return code >> 2 * (n - 1 - k) & LETTINGS - 1;
        }

        private static int yardsOf(int letting) {
            return letting == 3 ? -5 : 5 * letting;
        }

        int greatestWeight(int paper, int n) {
            for (int weight = MOST_WEIGHT; weight >= 1; weight--) {
                draftWith(WEIGHT_OF, paper, weight);
                passDraft(n);
                if (draft.isPolicy(paper)) {
                    return weight;
                }
            }
            return NONE;
        }

        int leastSnappingForce(int paper) {
            for (int wind = 0; wind <= MOST_GUST; wind++) {
                if (now.papers[paper].snapsBy(now.riseOf(paper, wind), now.strong)) {
                    return wind;
                }
            }
            return NONE;
        }

        void watch(int paper, Row row, int from, int hours) {
            watched = paper;
            seen = row;
            seenFrom = from;
            seenHours = hours;
        }

        int fittingPapers(int which) {
            switch (which) {
                case 0:
                    search(SORT_OF, watched, BILL, CLOUDED);
                    return fittingBits;
                case 1:
                    search(BELLY_OF, watched, 0, MOST_BELLY);
                    return fittingBits;
                default:
                    search(WEIGHT_OF, watched, 1, MOST_WEIGHT);
                    if (which == 2) {
                        return fittingMany;
                    }
                    return which == 3 ? fittingLeast : fittingGreatest;
            }
        }

        int fittingForces(int wind) {
            search(FORCE_OF, wind, 0, MOST_FORCE);
            return fittingBits;
        }

        int fittingTapes(int which) {
            search(STRONG_OF, 0, 1, MOST_STRONG);
            return which == 0 ? fittingMany : fittingLeast;
        }

        private void search(int thing, int of, int from, int to) {
            fittingBits = 0;
            fittingMany = 0;
            fittingLeast = NONE;
            fittingGreatest = NONE;
            for (int v = from; v <= to; v++) {
                draftWith(thing, of, v);
                if (draftIsAsSeen()) {
                    noteFitting(v);
                }
            }
        }

        private void noteFitting(int v) {
            if (fittingMany == 0) {
                fittingLeast = v;
            }
            fittingGreatest = v;
            fittingMany++;
            // Only of what goes no further than 9 the bits are asked for.
            if (v <= 9) {
                fittingBits |= 1 << v;
            }
        }

        private void draftWith(int thing, int of, int v) {
            draft.become(now);
            switch (thing) {
                case SORT_OF: draft.papers[of].sort = v; break;
                case BELLY_OF: draft.papers[of].belly = v; break;
                case WEIGHT_OF: draft.papers[of].weight = v; break;
                case FORCE_OF: draft.forces[of] = v; break;
                default: draft.strong = v; break;
            }
        }

        private boolean draftIsAsSeen() {
            if (seen == null || !seen.hasPlaces(seenFrom, seenHours)) {
                return false;
            }
            for (int h = 0; h < seenHours; h++) {
                draft.passHourIn(draft.forceAfter(0));
                if (draft.papers[watched].high != seen.items[seenFrom + h]) {
                    return false;
                }
            }
            return true;
        }

        /** Of 10 to the n cases, in how many the PAPER is POLICY. */
        long calmCases(int paper, int n, int p) {
            long cases = 0;
            for (int calms = 0; calms < 1 << n; calms++) {
                draft.become(now);
                for (int h = 0; h < n; h++) {
                    draft.passHourIn((calms >> h & 1) == 1 ? 0 : draft.forceAfter(0));
                }
                if (draft.isPolicy(paper)) {
                    int many = Integer.bitCount(calms);
                    cases += power(p, many) * power(10 - p, n - many);
                }
            }
            return cases;
        }

        void draftYears(int n, int seed) {
            draft.become(now);
            long x = seed;
            for (int h = 0; h < n; h++) {
                x = x * 16807 % 2147483647L;
                drawAct((int) x);
                draft.passHourIn((int) (x % 10));
            }
        }

        private void drawAct(int x) {
            if (draft.paperCount < 1) {
                return;
            }
            Paper one = draft.papers[x % draft.paperCount];
            if (one.how == IN_TRAY) {
                one.rise(x % 40 + 1);
            } else if (one.isUp() && x % 2 == 0) {
                one.letOutBy(5);
            }
        }
    }

    /** ASKS by BODIES, and THE TRACE that they leave. */
    static final class Asking {
        // The longest chain is 12, 11, 24, 21, 20.
        private static final int DEEPEST = 8;

        final int[] bodies = new int[TRACED];
        int many = 0;

        int traced(int i) {
            return i >= 0 && i < many && i < TRACED ? bodies[i] : NONE;
        }

        private void leave(int body) {
            if (many < TRACED) {
                bodies[many] = body;
                many++;
            }
        }

        int begin(int body, Paper one, int number) {
            many = 0;
            return give(body, one, number, 0);
        }

        private int give(int body, Paper one, int number, int depth) {
            if (depth > DEEPEST) {
                return 0;
            }
            leave(body);
            int below = depth + 1;
            switch (body) {
                case 10: return one.weight;
                case 11: return give(10, one, number, below) + give(one.markBody(), one, number, below);
                case 12: return -give(11, one, number, below);
                case 13: return give(10, one, number, below) - 100;
                case 14: return 2 * give(13, one, number, below);
                case 20: return number;
                case 21: return give(20, one, number, below) + one.high;
                case 22: return give(21, one, number, below) - 1000;
                case 23: return give(20, one, number, below) - give(one.sizeBody(), one, number, below);
                case 24: return 2 * give(21, one, number, below);
                default: return 0;
            }
        }
    }
}
