import java.util.Arrays;

/** A bench for plied yarn. The document's words are used as names; its promises say what each call answers. */
public final class YarnPlier {
    public static final int BAD = -1, NOT = -2, FULL = -3, STATE = -5, VOID = Integer.MIN_VALUE;

    private static final int SET_STATE = -10000, BALANCE_STATE = -10000000;
    private static final int MISSING = -11, OUTSIDE = -13, BELOW_0 = -14;
    private static final int FAULT_BASE = -100, REFUSED_BASE = -200;

    private static final int MOST_YARNS = 16, MOST_PARTS = 4, FEWEST_PARTS = 2, MOST_DEPTH = 3;
    private static final int MOST_LAYERS = 8, MOST_JOBS = 8, MOST_STEPS = 10;
    private static final int MOST_TWIST = 99, MOST_WEIGHT = 99, MOST_STOCK = 99999, MOST_YARDS = 9999;
    private static final int MOST_WISH = 9999, MOST_LAYER_ROWS = 40;
    /** A cable of depth 3 with 4 parts everywhere: 1, 4, 16 and 64. */
    private static final int MOST_WITHIN = 85;
    private static final int WHOLE = 1000;

    private static final int FIBRES = 4, LINEN = 1, SILK = 2, HEMP = 3;
    private static final int HEMP_EASE = 20;

    /** What is known of a yarn; the first seven are numbered as of() numbers them. */
    private static final int TWIST = 0, WEIGHT = 1, FIBRE = 2, STOCK = 3, PARTS = 4, DEPTH = 5, LEAVES = 6, INSIDE = 7;
    private static final int FACTS = 8;
    private static final int OF_BY = 7;
    /** Ranges of the facts that can be told: TWIST, WEIGHT, FIBRE, STOCK. */
    private static final int[] LEAST_TOLD = {-99, 1, 0, 0};
    private static final int[] MOST_TOLD = {99, 99, 3, 99999};
    private static final int NO_YARN = -1, NO_PLACE = -1;

    private static final int LAYER_YARN = 0, LAYER_ROWS = 1, LAYER_WAY = 2;
    private static final int JOB_YARN = 0, JOB_YARDS = 1;
    private static final int STEP_WHAT = 0, STEP_YARN = 1, STEP_WAS = 2;

    private static final int ROWS = 3, MOST_PLACES = 40;
    private static final int MOST_BYTES = 80, LEAST_BYTE = 32, MOST_BYTE = 126, MOST_FIGURES = 5;
    private static final int NO_FAULT = -1;

    private final Bench bench = new Bench();
    private final Bench taken = new Bench();
    private boolean hasTaken;
    private final int[] bundle = new int[MOST_PARTS];
    private int bundled;
    private final Line steps = new Line(MOST_STEPS);
    private final int[] tallies = new int[FIBRES];
    private final Rows rows = new Rows();
    private final Tape tape = new Tape();
    private final Within within = new Within();
    private final Path path = new Path();
    private final Skews skews = new Skews();
    private final int[] rest = new int[MOST_PLACES];

    public YarnPlier() {
    }

    // ---- yarns: threads, plies, what is told of them

    public int thread(int fibre, int weight, int twist) {
        return bench.yarns.addThread(fibre, weight, twist);
    }

    public int part(int yarn) {
        if (!bench.yarns.has(yarn)) {
            return BAD;
        }
        if (bundled >= MOST_PARTS) {
            return FULL;
        }
        if (!bench.yarns.canBePart(yarn)) {
            return STATE;
        }
        bundle[bundled] = yarn;
        bundled++;
        return bundled;
    }

    public int ply(int twist) {
        int answer = bench.yarns.addPlied(bundle, bundled, twist);
        if (answer >= 0) {
            bundled = 0;
        }
        return answer;
    }

    public int clear() {
        int were = bench.yarns.size;
        bench.empty();
        bundled = 0;
        steps.empty();
        return were;
    }

    public int set(int what, int yarn, int v) {
        int was = bench.yarns.tell(what, yarn, v);
        if (was > SET_STATE && was != v) {
            if (steps.isFull()) {
                steps.drop(0);
            }
            steps.add(what, yarn, was);
        }
        return was;
    }

    public int of(int yarn, int what) {
        if (!bench.yarns.has(yarn) || !inRange(what, TWIST, OF_BY)) {
            return VOID;
        }
        return what == OF_BY ? bench.yarns.by(yarn) : bench.yarns.fact(yarn, what);
    }

    public int partOf(int yarn, int i) {
        if (!bench.yarns.has(yarn) || i < 0) {
            return BAD;
        }
        return i < bench.yarns.fact(yarn, PARTS) ? bench.yarns.partAt(yarn, i) : NOT;
    }

    // ---- leaves, torque, what is taken up

    public int leaf(int yarn, int i, int what) {
        if (!inRange(what, 0, 1) || !path.lead(bench.yarns, yarn, i)) {
            return VOID;
        }
        return what == 0 ? path.end : path.turnOf(bench.yarns);
    }

    public int torque(int yarn) {
        if (!bench.yarns.has(yarn)) {
            return VOID;
        }
        int answer = torqueOf(yarn);
        within.countFibres(bench.yarns, tallies);
        return answer;
    }

    public int tally(int fibre) {
        return inRange(fibre, 0, FIBRES - 1) ? tallies[fibre] : BAD;
    }

    public long kept(int yarn, int i, int part) {
        if (!inRange(part, 0, 1) || !path.lead(bench.yarns, yarn, i)) {
            return VOID;
        }
        long above = path.byOf(bench.yarns);
        long below = path.wholeOf();
        long shared = commonDivisor(above, below);
        if (shared <= 0) {
            return VOID;
        }
        return part == 0 ? above / shared : below / shared;
    }

    public int needs(int yarn, int i, int yards) {
        if (!inRange(yards, 0, MOST_YARDS) || !path.lead(bench.yarns, yarn, i)) {
            return BAD;
        }
        return path.needsFor(bench.yarns, yards);
    }

    public int heavy(int yarn, int yards) {
        if (!bench.yarns.has(yarn) || !inRange(yards, 0, MOST_YARDS)) {
            return BAD;
        }
        within.walk(bench.yarns, yarn, NO_YARN);
        within.draw(bench.yarns, yards);
        return within.heavyOf(bench.yarns);
    }

    // ---- balance, plans, what can be made, yarns alike

    public int balance(int yarn, int at, int what) {
        if (!bench.yarns.has(yarn) || !bench.yarns.has(at) || !inRange(what, 0, 1)) {
            return VOID;
        }
        if (!bench.yarns.isInside(at, yarn)) {
            return BALANCE_STATE;
        }
        within.walk(bench.yarns, yarn, at);
        int twist = 0;
        int least = within.torqueBy(bench.yarns, 0);
        for (int size = 1; size <= MOST_TWIST; size++) {
            // of like ones the smaller comes first, and the one below 0 ahead of the other
            for (int sign = -1; sign <= 1; sign += 2) {
                int torque = within.torqueBy(bench.yarns, sign * size);
                if (Math.abs(torque) < Math.abs(least)) {
                    least = torque;
                    twist = sign * size;
                }
            }
        }
        return what == 0 ? twist : least;
    }

    public int plan(int yarn, int twist, int wish, int what) {
        if (!bench.yarns.isThread(yarn) || !canBeTold(TWIST, twist)
                || !inRange(wish, 0, MOST_WISH) || !inRange(what, 0, 1)) {
            return BAD;
        }
        int weight = bench.yarns.fact(yarn, WEIGHT);
        int best = FEWEST_PARTS;
        for (int parts = FEWEST_PARTS + 1; parts <= MOST_PARTS; parts++) {
            int away = Math.abs(plannedHeavy(weight, twist, parts) - wish);
            if (away < Math.abs(plannedHeavy(weight, twist, best) - wish)) {
                best = parts;
            }
        }
        return what == 0 ? best : plannedHeavy(weight, twist, best);
    }

    public int can(int yarn) {
        if (!bench.yarns.has(yarn)) {
            return BAD;
        }
        if (bench.yarns.isThread(yarn)) {
            return STATE;
        }
        within.walk(bench.yarns, yarn, NO_YARN);
        int low = 0;
        int high = Math.min(MOST_YARDS, MOST_STOCK - bench.yarns.fact(yarn, STOCK));
        // 14 halvings reach one of 10000
        for (int halving = 0; halving < 14 && low < high; halving++) {
            int middle = (low + high + 1) / 2;
            within.draw(bench.yarns, middle);
            if (within.isInStock(bench.yarns)) {
                low = middle;
            } else {
                high = middle - 1;
            }
        }
        return low;
    }

    public int alike(int one, int other, int what) {
        if (!bench.yarns.has(one) || !bench.yarns.has(other) || !inRange(what, 0, 1)) {
            return BAD;
        }
        return areAlike(bench.yarns, one, other, what == 0 ? 1 : -1, 0) ? 1 : 0;
    }

    public int inside(int yarn) {
        return bench.yarns.has(yarn) ? bench.yarns.fact(yarn, INSIDE) : BAD;
    }

    public int make(int yarn, int yards) {
        int answer = makeYards(yarn, yards);
        if (answer >= 0) {
            steps.empty();
        }
        return answer;
    }

    // ---- layers

    public int lay(int yarn, int rows, int way) {
        if (yarn == NO_YARN) {
            bench.layers.empty();
            return 0;
        }
        if (!bench.yarns.has(yarn) || !inRange(rows, 1, MOST_LAYER_ROWS) || !inRange(way, 0, 1)) {
            return BAD;
        }
        if (bench.layers.isFull()) {
            return FULL;
        }
        bench.layers.add(yarn, rows, way);
        return bench.layers.size;
    }

    public int skew(int k) {
        if (!inRange(k, 0, bench.layers.size)) {
            return VOID;
        }
        weighLayers();
        return skews.behind(k);
    }

    public int worst() {
        weighLayers();
        return skews.worstBehind();
    }

    public int order(int k) {
        if (!inRange(k, -1, bench.layers.size - 1)) {
            return BAD;
        }
        weighLayers();
        skews.findReaches();
        return k < 0 ? skews.leastWorst() : skews.inBestOrder(k);
    }

    public int turned() {
        weighLayers();
        return skews.bestToTurn();
    }

    public int fits(int row, int n, int yarn, int ta, int what) {
        Yarns yarns = bench.yarns;
        if (!rows.has(row) || !inRange(n, 0, MOST_PLACES) || !yarns.has(yarn) || ta < 0
                || !yarns.isThread(ta / MOST_YARNS) || !yarns.has(ta % MOST_YARNS) || !inRange(what, 0, 2)) {
            return BAD;
        }
        int thread = ta / MOST_YARNS;
        int at = ta % MOST_YARNS;
        if (!yarns.isInside(at, yarn)) {
            return STATE;
        }
        if (rows.isMissing(row)) {
            return MISSING;
        }
        if (n > rows.sizeOf(row)) {
            return OUTSIDE;
        }
        within.walk(yarns, yarn, at);
        for (int t = 0; t < n; t++) {
            rest[t] = rows.placeAt(row, t) - within.torqueWithout(yarns, thread, t);
        }
        return what == 0 ? fittingFibres(thread, n) : fittingWeights(thread, n, what);
    }

    // ---- jobs

    public int job(int yarn, int yards) {
        if (!bench.yarns.has(yarn) || !inRange(yards, 1, MOST_YARDS)) {
            return BAD;
        }
        if (bench.yarns.isThread(yarn)) {
            return STATE;
        }
        if (bench.jobs.isFull()) {
            return FULL;
        }
        bench.jobs.add(yarn, yards, 0);
        return bench.jobs.size;
    }

    public int do1() {
        Line jobs = bench.jobs;
        if (jobs.size == 0) {
            return NOT;
        }
        if (makeYards(jobs.at(0, JOB_YARN), jobs.at(0, JOB_YARDS)) < 0) {
            return STATE;
        }
        jobs.drop(0);
        steps.empty();
        return jobs.size;
    }

    public int strike(int yarn) {
        if (!bench.yarns.has(yarn)) {
            return BAD;
        }
        int were = bench.jobs.size;
        for (int i = were - 1; i >= 0; i--) {
            if (bench.jobs.at(i, JOB_YARN) == yarn) {
                bench.jobs.drop(i);
            }
        }
        return were - bench.jobs.size;
    }

    public int about() {
        bench.jobs.reverse();
        return bench.jobs.size;
    }

    public int jobOf(int i, int what) {
        if (!inRange(what, JOB_YARN, JOB_YARDS)) {
            return BAD;
        }
        return inRange(i, 0, bench.jobs.size - 1) ? bench.jobs.at(i, what) : NOT;
    }

    // ---- steps, the tape, rows, the image

    public int back() {
        if (steps.size == 0) {
            return STATE;
        }
        int latest = steps.size - 1;
        bench.yarns.tell(steps.at(latest, STEP_WHAT), steps.at(latest, STEP_YARN), steps.at(latest, STEP_WAS));
        steps.drop(latest);
        return steps.size;
    }

    public int feed(int letter) {
        if (!inRange(letter, LEAST_BYTE, MOST_BYTE)) {
            return BAD;
        }
        return tape.add(letter) ? tape.size : FULL;
    }

    public int wipe() {
        int had = tape.size;
        tape.size = 0;
        return had;
    }

    public int read() {
        int fault = tape.firstFault();
        if (fault != NO_FAULT) {
            tape.size = 0;
            return FAULT_BASE - fault;
        }
        int done = 0;
        boolean refused = false;
        tape.rewind();
        while (done < MOST_BYTES && !refused && tape.takeAct()) {
            if (doAct()) {
                done++;
                tape.takeSign(';');
            } else {
                refused = true;
            }
        }
        tape.size = 0;
        if (done > 0) {
            steps.empty();
        }
        return refused ? REFUSED_BASE - done : done;
    }

    public int row(int row, int n) {
        if (!rows.has(row) || n > MOST_PLACES) {
            return BAD;
        }
        if (n < -1) {
            return BELOW_0;
        }
        rows.renew(row, n);
        return 1;
    }

    public int put(int row, int i, int v) {
        if (!rows.has(row)) {
            return BAD;
        }
        if (rows.isMissing(row)) {
            return MISSING;
        }
        if (!rows.hasPlace(row, i)) {
            return OUTSIDE;
        }
        rows.write(row, i, v);
        return 1;
    }

    public int get(int row, int i) {
        return rows.has(row) && rows.hasPlace(row, i) ? rows.placeAt(row, i) : VOID;
    }

    public int film(int row, int n, int yarn, int at) {
        if (!rows.has(row) || !inRange(n, 0, MOST_PLACES) || !bench.yarns.has(yarn) || !bench.yarns.has(at)) {
            return BAD;
        }
        if (!bench.yarns.isInside(at, yarn)) {
            return STATE;
        }
        within.walk(bench.yarns, yarn, at);
        rows.renew(row, n);
        for (int t = 0; t < n; t++) {
            rows.write(row, t, within.torqueBy(bench.yarns, t));
        }
        return n;
    }

    public int image() {
        taken.copy(bench);
        hasTaken = true;
        return bench.yarns.size;
    }

    public int undo() {
        if (!hasTaken) {
            return STATE;
        }
        bench.copy(taken);
        bundled = 0;
        steps.empty();
        return bench.yarns.size;
    }

    public int count(int what) {
        switch (what) {
            case 0:
                return bench.yarns.size;
            case 1:
                return bundled;
            case 2:
                return bench.layers.size;
            case 3:
                return bench.jobs.size;
            case 4:
                return steps.size;
            case 5:
                return tape.size;
            case 6:
                return countBalanced();
            default:
                return BAD;
        }
    }

    // ---- what several calls share

    private int torqueOf(int yarn) {
        within.walk(bench.yarns, yarn, NO_YARN);
        return within.torqueBy(bench.yarns, 0);
    }

    private int countBalanced() {
        int balanced = 0;
        for (int yarn = 0; yarn < bench.yarns.size; yarn++) {
            if (torqueOf(yarn) == 0) {
                balanced++;
            }
        }
        return balanced;
    }

    private void weighLayers() {
        Line layers = bench.layers;
        skews.size = layers.size;
        for (int i = 0; i < layers.size; i++) {
            int weighed = torqueOf(layers.at(i, LAYER_YARN)) * layers.at(i, LAYER_ROWS);
            skews.pulls[i] = layers.at(i, LAYER_WAY) == 1 ? -weighed : weighed;
        }
    }

    /** STOCK of the yarn behind it, or the refusal. */
    private int makeYards(int yarn, int yards) {
        Yarns yarns = bench.yarns;
        if (!yarns.has(yarn) || !inRange(yards, 1, MOST_YARDS)) {
            return BAD;
        }
        if (yarns.isThread(yarn) || yarns.fact(yarn, STOCK) + yards > MOST_STOCK) {
            return STATE;
        }
        within.walk(yarns, yarn, NO_YARN);
        within.draw(yarns, yards);
        if (!within.isInStock(yarns)) {
            return STATE;
        }
        within.takeFromStock(yarns);
        yarns.write(yarn, STOCK, yarns.fact(yarn, STOCK) + yards);
        return yarns.fact(yarn, STOCK);
    }

    private int fittingFibres(int thread, int n) {
        int bits = 0;
        for (int fibre = 0; fibre < FIBRES; fibre++) {
            if (isFitting(thread, fibre, bench.yarns.fact(thread, WEIGHT), n)) {
                bits |= 1 << fibre;
            }
        }
        return bits;
    }

    private int fittingWeights(int thread, int n, int what) {
        int fitting = 0;
        int least = NOT;
        for (int weight = MOST_WEIGHT; weight >= 1; weight--) {
            if (isFitting(thread, bench.yarns.fact(thread, FIBRE), weight, n)) {
                fitting++;
                least = weight;
            }
        }
        return what == 1 ? fitting : least;
    }

    private boolean isFitting(int thread, int fibre, int weight, int n) {
        for (int t = 0; t < n; t++) {
            if (within.pullsOf(thread, fibre, weight, t) != rest[t]) {
                return false;
            }
        }
        return true;
    }

    /** The act that the tape has read last. false: it is refused. */
    private boolean doAct() {
        int[] told = tape.numbers;
        switch (tape.kind) {
            case 't':
                return bench.yarns.addThread(told[0], told[1], told[2]) >= 0;
            case 'p':
                return bench.yarns.addPlied(told, tape.found - 1, tape.lastNumber()) >= 0;
            case 's':
                return bench.yarns.tell(STOCK, told[0], told[1]) >= 0;
            case 'm':
                return makeYards(told[0], told[1]) >= 0;
            default:
                return false;
        }
    }

    private static boolean inRange(int v, int least, int most) {
        return v >= least && v <= most;
    }

    private static boolean canBeTold(int what, int v) {
        return inRange(what, TWIST, STOCK) && inRange(v, LEAST_TOLD[what], MOST_TOLD[what]);
    }

    private static int cutUp(int above, int below) {
        return below <= 0 ? 0 : (above + below - 1) / below;
    }

    private static int byOfPlied(int twist, int parts) {
        return WHOLE - Math.abs(twist) * parts;
    }

    private static int plannedHeavy(int weight, int twist, int parts) {
        return parts * weight * cutUp(100 * WHOLE, byOfPlied(twist, parts)) / 100;
    }

    private static int fibrePull(int fibre, int weight, int turn) {
        switch (fibre) {
            case LINEN:
                return 2 * weight * turn;
            case SILK:
                return weight * turn / 2;
            case HEMP:
                return weight * turn + weight * beyondEase(turn);
            default: // wool
                return weight * turn;
        }
    }

    private static int beyondEase(int turn) {
        if (turn > HEMP_EASE) {
            return turn - HEMP_EASE;
        }
        return turn < -HEMP_EASE ? turn + HEMP_EASE : 0;
    }

    private static long commonDivisor(long one, long other) {
        long a = one;
        long b = other;
        // Euclid's rest halves every second round: 128 rounds are more than a long can need
        for (int round = 0; round < 128 && b != 0; round++) {
            long left = a % b;
            a = b;
            b = left;
        }
        return a;
    }

    /** sign -1: each twist is the other's with the other sign. */
    private static boolean areAlike(Yarns yarns, int one, int other, int sign, int level) {
        int parts = yarns.fact(one, PARTS);
        if (level > MOST_DEPTH || parts != yarns.fact(other, PARTS)
                || yarns.fact(one, TWIST) != sign * yarns.fact(other, TWIST)
                || yarns.fact(one, FIBRE) != yarns.fact(other, FIBRE)
                || yarns.fact(one, WEIGHT) != yarns.fact(other, WEIGHT)) {
            return false;
        }
        for (int i = 0; i < parts; i++) {
            if (!areAlike(yarns, yarns.partAt(one, i), yarns.partAt(other, i), sign, level + 1)) {
                return false;
            }
        }
        return true;
    }

    /** What an image holds. */
    private static final class Bench {
        final Yarns yarns = new Yarns();
        final Line layers = new Line(MOST_LAYERS);
        final Line jobs = new Line(MOST_JOBS);

        void empty() {
            yarns.size = 0;
            layers.empty();
            jobs.empty();
        }

        void copy(Bench other) {
            yarns.copy(other.yarns);
            layers.copy(other.layers);
            jobs.copy(other.jobs);
        }
    }

    /** The yarns by number. Parts have lower numbers than what is plied of them, so no yarn is within itself. */
    private static final class Yarns {
        int size;
        private final int[] facts = new int[MOST_YARNS * FACTS];
        private final int[] parts = new int[MOST_YARNS * MOST_PARTS];

        boolean has(int yarn) {
            return yarn >= 0 && yarn < size;
        }

        boolean isThread(int yarn) {
            return has(yarn) && fact(yarn, PARTS) == 0;
        }

        boolean isInside(int at, int yarn) {
            return (fact(yarn, INSIDE) >> at & 1) == 1;
        }

        boolean canBePart(int yarn) {
            return has(yarn) && fact(yarn, DEPTH) < MOST_DEPTH;
        }

        int fact(int yarn, int what) {
            return facts[yarn * FACTS + what];
        }

        void write(int yarn, int what, int v) {
            facts[yarn * FACTS + what] = v;
        }

        int partAt(int yarn, int i) {
            return parts[yarn * MOST_PARTS + i];
        }

        /** 1000 of a thread: it has no parts. */
        int by(int yarn) {
            return byOfPlied(fact(yarn, TWIST), fact(yarn, PARTS));
        }

        int addThread(int fibre, int weight, int twist) {
            if (!canBeTold(FIBRE, fibre) || !canBeTold(WEIGHT, weight) || !canBeTold(TWIST, twist)) {
                return BAD;
            }
            if (size >= MOST_YARNS) {
                return FULL;
            }
            int yarn = size;
            size++;
            write(yarn, TWIST, twist);
            write(yarn, WEIGHT, weight);
            write(yarn, FIBRE, fibre);
            write(yarn, STOCK, 0);
            write(yarn, PARTS, 0);
            write(yarn, DEPTH, 0);
            write(yarn, LEAVES, 1);
            write(yarn, INSIDE, 1 << yarn);
            return yarn;
        }

        int addPlied(int[] from, int n, int twist) {
            if (!canBeTold(TWIST, twist)) {
                return BAD;
            }
            if (!inRange(n, FEWEST_PARTS, MOST_PARTS) || n > from.length) {
                return STATE;
            }
            for (int i = 0; i < n; i++) {
                if (!canBePart(from[i])) {
                    return STATE;
                }
            }
            if (size >= MOST_YARNS) {
                return FULL;
            }
            int yarn = size;
            size++;
            write(yarn, TWIST, twist);
            write(yarn, WEIGHT, -1);
            write(yarn, FIBRE, -1);
            write(yarn, STOCK, 0);
            join(yarn, from, n);
            return yarn;
        }

        private void join(int yarn, int[] from, int n) {
            int depth = 0;
            int leaves = 0;
            int bits = 1 << yarn;
            for (int i = 0; i < n; i++) {
                int part = from[i];
                parts[yarn * MOST_PARTS + i] = part;
                depth = Math.max(depth, fact(part, DEPTH) + 1);
                leaves += fact(part, LEAVES);
                bits |= fact(part, INSIDE);
            }
            write(yarn, PARTS, n);
            write(yarn, DEPTH, depth);
            write(yarn, LEAVES, leaves);
            write(yarn, INSIDE, bits);
        }

        /** What it was, or set()'s refusals. */
        int tell(int what, int yarn, int v) {
            if (!canBeTold(what, v) || !has(yarn)) {
                return VOID;
            }
            if (!isThread(yarn) && (what == WEIGHT || what == FIBRE)) {
                return SET_STATE;
            }
            int was = fact(yarn, what);
            write(yarn, what, v);
            return was;
        }

        void copy(Yarns other) {
            size = other.size;
            System.arraycopy(other.facts, 0, facts, 0, facts.length);
            System.arraycopy(other.parts, 0, parts, 0, parts.length);
        }
    }

    /** Things one behind another, each of three numbers: layers, jobs, steps. */
    private static final class Line {
        private static final int WIDE = 3;
        int size;
        private final int[] cells;

        Line(int most) {
            cells = new int[most * WIDE];
        }

        boolean isFull() {
            return (size + 1) * WIDE > cells.length;
        }

        int at(int i, int column) {
            return cells[i * WIDE + column];
        }

        void add(int first, int second, int third) {
            if (!isFull()) {
                cells[size * WIDE] = first;
                cells[size * WIDE + 1] = second;
                cells[size * WIDE + 2] = third;
                size++;
            }
        }

        void drop(int i) {
            if (i >= 0 && i < size) {
                System.arraycopy(cells, (i + 1) * WIDE, cells, i * WIDE, (size - i - 1) * WIDE);
                size--;
            }
        }

        void reverse() {
            for (int low = 0, high = size - 1; low < high; low++, high--) {
                for (int column = 0; column < WIDE; column++) {
                    int held = cells[low * WIDE + column];
                    cells[low * WIDE + column] = cells[high * WIDE + column];
                    cells[high * WIDE + column] = held;
                }
            }
        }

        void empty() {
            size = 0;
        }

        void copy(Line other) {
            size = other.size;
            System.arraycopy(other.cells, 0, cells, 0, Math.min(other.cells.length, cells.length));
        }
    }

    /**
     * All that is within a yarn, itself first, each place with its turn and how often it is there:
     * like parts of one place are one entry, so that asking 199 twists stays cheap.
     * One yarn may be moved: its own twist is left out of the turns, and given when torque is asked.
     */
    private static final class Within {
        private int size;
        private final int[] yarn = new int[MOST_WITHIN];
        private final int[] turn = new int[MOST_WITHIN];
        private final int[] times = new int[MOST_WITHIN];
        private final int[] around = new int[MOST_WITHIN];
        private final boolean[] moved = new boolean[MOST_WITHIN];
        private final int[] yards = new int[MOST_WITHIN];
        private final int[] needed = new int[MOST_YARNS];

        void walk(Yarns yarns, int outermost, int at) {
            size = 0;
            addPlace(yarns, outermost, NO_PLACE, at);
            for (int place = 0; place < size && place < MOST_WITHIN; place++) {
                addParts(yarns, place, at);
            }
        }

        private void addParts(Yarns yarns, int place, int at) {
            int first = size;
            int parts = yarns.fact(yarn[place], PARTS);
            for (int i = 0; i < parts; i++) {
                int part = yarns.partAt(yarn[place], i);
                int like = first;
                while (like < size && yarn[like] != part) {
                    like++;
                }
                if (like < size) {
                    times[like] += times[place];
                } else {
                    addPlace(yarns, part, place, at);
                }
            }
        }

        private void addPlace(Yarns yarns, int what, int outer, int at) {
            if (size >= MOST_WITHIN) {
                return;
            }
            yarn[size] = what;
            around[size] = outer;
            turn[size] = what == at ? 0 : yarns.fact(what, TWIST);
            moved[size] = what == at || outer >= 0 && moved[outer];
            times[size] = 1;
            if (outer >= 0) {
                turn[size] += turn[outer];
                times[size] = times[outer];
            }
            size++;
        }

        int torqueBy(Yarns yarns, int twist) {
            return torqueWithout(yarns, NO_YARN, twist);
        }

        int torqueWithout(Yarns yarns, int thread, int twist) {
            int torque = 0;
            for (int place = 0; place < size; place++) {
                int within = yarn[place];
                if (within != thread) {
                    int by = turnBy(place, twist);
                    int parts = yarns.fact(within, PARTS);
                    int pull = parts > 0 ? by * parts
                            : fibrePull(yarns.fact(within, FIBRE), yarns.fact(within, WEIGHT), by);
                    torque += times[place] * pull;
                }
            }
            return torque;
        }

        /** What a thread's own pulls would come to, were it of that fibre and weight. */
        int pullsOf(int thread, int fibre, int weight, int twist) {
            int pulls = 0;
            for (int place = 0; place < size; place++) {
                if (yarn[place] == thread) {
                    pulls += times[place] * fibrePull(fibre, weight, turnBy(place, twist));
                }
            }
            return pulls;
        }

        private int turnBy(int place, int twist) {
            return moved[place] ? turn[place] + twist : turn[place];
        }

        void countFibres(Yarns yarns, int[] tallies) {
            Arrays.fill(tallies, 0);
            for (int place = 0; place < size; place++) {
                int fibre = yarns.fact(yarn[place], FIBRE);
                if (fibre >= 0 && fibre < tallies.length) {
                    tallies[fibre] += times[place];
                }
            }
        }

        /** Finds what is needed of each thread. Places stand behind what is around them. */
        void draw(Yarns yarns, int wanted) {
            Arrays.fill(needed, 0);
            for (int place = 0; place < size; place++) {
                int outer = around[place];
                yards[place] = outer < 0 ? wanted : cutUp(yards[outer] * WHOLE, yarns.by(yarn[outer]));
                if (yarns.isThread(yarn[place])) {
                    needed[yarn[place]] += times[place] * yards[place];
                }
            }
        }

        int heavyOf(Yarns yarns) {
            int heavy = 0;
            for (int thread = 0; thread < yarns.size; thread++) {
                heavy += needed[thread] * yarns.fact(thread, WEIGHT);
            }
            return heavy / 100;
        }

        boolean isInStock(Yarns yarns) {
            for (int thread = 0; thread < yarns.size; thread++) {
                if (needed[thread] > yarns.fact(thread, STOCK)) {
                    return false;
                }
            }
            return true;
        }

        void takeFromStock(Yarns yarns) {
            for (int thread = 0; thread < yarns.size; thread++) {
                yarns.write(thread, STOCK, yarns.fact(thread, STOCK) - needed[thread]);
            }
        }
    }

    /** The way from a yarn to one of its leaves: the plied ones around it from the outermost in. */
    private static final class Path {
        int end;
        private int length;
        private final int[] around = new int[MOST_DEPTH];

        /** false: there is no such yarn or leaf. */
        boolean lead(Yarns yarns, int yarn, int leaf) {
            if (!yarns.has(yarn) || leaf < 0 || leaf >= yarns.fact(yarn, LEAVES)) {
                return false;
            }
            end = yarn;
            length = 0;
            int ahead = leaf;
            while (length < MOST_DEPTH && !yarns.isThread(end)) {
                int outer = end;
                around[length] = outer;
                length++;
                int i = 0;
                end = yarns.partAt(outer, i);
                while (i + 1 < yarns.fact(outer, PARTS) && ahead >= yarns.fact(end, LEAVES)) {
                    ahead -= yarns.fact(end, LEAVES);
                    i++;
                    end = yarns.partAt(outer, i);
                }
            }
            return true;
        }

        int turnOf(Yarns yarns) {
            int turn = yarns.fact(end, TWIST);
            for (int i = 0; i < length; i++) {
                turn += yarns.fact(around[i], TWIST);
            }
            return turn;
        }

        long byOf(Yarns yarns) {
            long by = 1;
            for (int i = 0; i < length; i++) {
                by *= yarns.by(around[i]);
            }
            return by;
        }

        long wholeOf() {
            long whole = 1;
            for (int i = 0; i < length; i++) {
                whole *= WHOLE;
            }
            return whole;
        }

        int needsFor(Yarns yarns, int yards) {
            int needed = yards;
            for (int i = 0; i < length; i++) {
                needed = cutUp(needed * WHOLE, yarns.by(around[i]));
            }
            return needed;
        }
    }

    /** What each layer adds to the skew, and what comes of it. */
    private static final class Skews {
        int size;
        final int[] pulls = new int[MOST_LAYERS];
        /** By the set of layers laid already: the least worst from there on, whatever comes behind. */
        private final int[] reaches = new int[1 << MOST_LAYERS];

        int behind(int k) {
            int skew = 0;
            for (int i = 0; i < k && i < size; i++) {
                skew += pulls[i];
            }
            return skew;
        }

        int worstBehind() {
            int skew = 0;
            int worst = 0;
            for (int i = 0; i < size; i++) {
                skew += pulls[i];
                worst = Math.max(worst, Math.abs(skew));
            }
            return worst;
        }

        int bestToTurn() {
            int least = worstBehind();
            int best = NOT;
            for (int i = 0; i < size; i++) {
                pulls[i] = -pulls[i];
                int worst = worstBehind();
                pulls[i] = -pulls[i];
                if (worst < least) {
                    least = worst;
                    best = i;
                }
            }
            return best;
        }

        /** The skew behind some layers is the same in whatever order they lie: 256 sets do for all orders. */
        void findReaches() {
            int all = (1 << size) - 1;
            for (int laid = all; laid >= 0; laid--) {
                int skew = 0;
                int least = laid == all ? 0 : Integer.MAX_VALUE;
                for (int i = 0; i < size; i++) {
                    if ((laid >> i & 1) == 1) {
                        skew += pulls[i];
                    } else {
                        least = Math.min(least, reaches[laid | 1 << i]);
                    }
                }
                reaches[laid] = Math.max(least, Math.abs(skew));
            }
        }

        int leastWorst() {
            return reaches[0];
        }

        int inBestOrder(int k) {
            int laid = 0;
            int latest = NOT;
            for (int place = 0; place <= k && place < size; place++) {
                latest = 0;
                while (latest + 1 < size && !isBest(laid, latest)) {
                    latest++;
                }
                laid |= 1 << latest;
            }
            return latest;
        }

        private boolean isBest(int laid, int next) {
            return (laid >> next & 1) == 0 && reaches[laid | 1 << next] <= reaches[0];
        }
    }

    /** The bytes fed, and the act that was read of them last. */
    private static final class Tape {
        int size;
        int kind;
        int found;
        final int[] numbers = new int[MOST_PARTS + 1];
        private int at;
        private final byte[] bytes = new byte[MOST_BYTES];

        boolean add(int letter) {
            if (size >= MOST_BYTES) {
                return false;
            }
            bytes[size] = (byte) letter;
            size++;
            return true;
        }

        void rewind() {
            at = 0;
        }

        int firstFault() {
            rewind();
            for (int acts = 0; acts < MOST_BYTES; acts++) {
                if (!takeAct()) {
                    return at;
                }
                if (at >= size) {
                    return NO_FAULT;
                }
                if (!takeSign(';')) {
                    return at;
                }
            }
            return at;
        }

        /** false: no act goes on with the byte at which it stays. */
        boolean takeAct() {
            found = 0;
            if (at >= size) {
                return false;
            }
            kind = bytes[at];
            switch (kind) {
                case 't':
                    at++;
                    return takeNumber() && takeSign(',') && takeNumber() && takeSign(',') && takeTwist();
                case 'p':
                    at++;
                    return takeParts() && takeTwist();
                case 's':
                case 'm':
                    at++;
                    return takeNumber() && takeSign(',') && takeNumber();
                default:
                    return false;
            }
        }

        int lastNumber() {
            return found > 0 ? numbers[found - 1] : 0;
        }

        boolean takeSign(char sign) {
            if (at >= size || bytes[at] != sign) {
                return false;
            }
            at++;
            return true;
        }

        private boolean takeParts() {
            for (int parts = 1; parts <= MOST_PARTS; parts++) {
                if (!takeNumber()) {
                    return false;
                }
                if (parts >= FEWEST_PARTS && takeSign(':')) {
                    return true;
                }
                if (parts == MOST_PARTS || !takeSign(',')) {
                    return false;
                }
            }
            return false;
        }

        private boolean takeTwist() {
            boolean below = takeSign('-');
            if (!takeNumber()) {
                return false;
            }
            if (below) {
                numbers[found - 1] = -numbers[found - 1];
            }
            return true;
        }

        private boolean takeNumber() {
            int number = 0;
            int figures = 0;
            while (figures < MOST_FIGURES && at < size && bytes[at] >= '0' && bytes[at] <= '9') {
                number = number * 10 + bytes[at] - '0';
                figures++;
                at++;
            }
            if (figures == 0 || found >= numbers.length) {
                return false;
            }
            numbers[found] = number;
            found++;
            return true;
        }
    }

    /** Three rows of ints that may be missing. */
    private static final class Rows {
        private final int[] sizes = {-1, -1, -1};
        private final int[] places = new int[ROWS * MOST_PLACES];

        boolean has(int row) {
            return row >= 0 && row < ROWS;
        }

        boolean isMissing(int row) {
            return sizes[row] < 0;
        }

        int sizeOf(int row) {
            return sizes[row];
        }

        boolean hasPlace(int row, int i) {
            return i >= 0 && i < sizes[row];
        }

        int placeAt(int row, int i) {
            return places[row * MOST_PLACES + i];
        }

        void write(int row, int i, int v) {
            places[row * MOST_PLACES + i] = v;
        }

        void renew(int row, int n) {
            sizes[row] = n;
            for (int i = 0; i < n; i++) {
                write(row, i, 0);
            }
        }
    }
}
