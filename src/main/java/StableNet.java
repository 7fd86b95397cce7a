import java.util.Arrays;

/**
 * A net of nodes that comes to rest by itself: a tree of shortest ways, waves that sum all values,
 * and one right to enter that goes round. Words in capitals are those of the document, DOC.md.
 */
public final class StableNet {
    public static final int NONE = -1, UNKNOWN = -101, OUTSIDE = -102, STATE = -103;

    private static final int FEWEST_NODES = 2, MOST_NODES = 12, ROOT = 0;
    private static final int CLEAN = 0, DOWN = 1, UP = 2;
    private static final int SANE = 0, TREE = 1, WAVE = 2, RING = 3, RULES = 4;
    private static final int ALL = 0, LEAST = 1, GREATEST = 2, IN_TURN = 3, BY_DICE = 4;
    private static final int MOST_RUN = 300, MOST_SETTLE = 2000;

    /** Slots of a NODE's row; behind X stands one slot for each other NODE by its number. */
    private static final int DIST = 0, PARENT = 1, PHASE = 2, SUM = 3, VALUE = 4, X = 5;
    private static final int SLOTS = X + MOST_NODES;

    private final Net net = new Net();
    private final Net kept = new Net();
    private boolean isKept = false;

    public StableNet() {
    }

    // ---- building

    public int open(int n) {
        if (n < FEWEST_NODES || n > MOST_NODES) {
            return OUTSIDE;
        }
        int before = net.shape.n;
        net.clear(n);
        return before;
    }

    public int link(int a, int b, boolean is) {
        if (!net.shape.isNode(a) || !net.shape.isNode(b)) {
            return UNKNOWN;
        }
        if (a == b) {
            return OUTSIDE;
        }
        if (net.isBuilt) {
            return STATE;
        }
        int before = has(net.shape.links[a], b) ? 1 : 0;
        net.shape.join(a, b, is);
        return before;
    }

    public int build() {
        if (net.isBuilt || !net.shape.isWhole()) {
            return STATE;
        }
        net.isBuilt = true;
        net.beginAnew();
        return net.shape.linkCount();
    }

    public int value(int i, int v) {
        if (!net.shape.isNode(i)) {
            return UNKNOWN;
        }
        int before = net.rows.own[i][VALUE];
        net.overwrite(i, VALUE, v);
        net.beginAnew();
        return before;
    }

    // ---- faults, variables

    public int fault(int i, int what, int v) {
        if (!net.shape.isNode(i)) {
            return UNKNOWN;
        }
        int slot = net.shape.slotOf(i, what);
        if (slot == NONE || slot == VALUE) {
            return OUTSIDE;
        }
        if (!net.isBuilt) {
            return STATE;
        }
        net.overwrite(i, slot, v);
        net.beginAnew();
        return 1;
    }

    public int told(int i, int what) {
        if (!net.shape.isNode(i)) {
            return UNKNOWN;
        }
        int slot = net.shape.slotOf(i, what);
        if (slot == NONE) {
            return OUTSIDE;
        }
        if (slot >= X && !net.isBuilt) {
            return STATE;
        }
        net.seen = net.rows.own[i][slot];
        return 1;
    }

    public int seen() {
        return net.seen;
    }

    public int neighbour(int i, int k) {
        return net.shape.isNode(i) ? pick(net.shape.links[i], k) : UNKNOWN;
    }

    public int child(int i, int k) {
        return net.shape.isNode(i) ? pick(net.rows.children[i], k) : UNKNOWN;
    }

    public int enabled(int i) {
        if (!net.shape.isNode(i)) {
            return UNKNOWN;
        }
        return net.isBuilt ? Rules.firstRule(net, i) : STATE;
    }

    public int rights() {
        return Rules.rightsInAll(net);
    }

    public int holder(int k) {
        if (k < 0) {
            return NONE;
        }
        int left = k;
        for (int i = 0; i < net.shape.n; i++) {
            left -= Integer.bitCount(Rules.rightsOf(net, i));
            if (left < 0) {
                return i;
            }
        }
        return NONE;
    }

    public int next(int i, int j) {
        if (!net.shape.isNode(i) || !net.shape.isNode(j)) {
            return UNKNOWN;
        }
        if (!has(net.rows.ties[i], j) || !has(net.rows.ties[j], i)) {
            return OUTSIDE;
        }
        if (!net.isBuilt) {
            return STATE;
        }
        int behind = net.rows.ties[j] & ~below(i + 1);
        return pick(behind == 0 ? net.rows.ties[j] : behind, 0);
    }

    // ---- acting

    public int step(int nodes) {
        return net.isBuilt ? net.act(nodes) : STATE;
    }

    public int run(int way, int n) {
        if (!isWay(way) || n < 0 || n > MOST_RUN) {
            return OUTSIDE;
        }
        if (!net.isBuilt) {
            return STATE;
        }
        int acted = 0;
        for (int s = 0; s < n; s++) {
            acted += net.act(net.choose(way));
        }
        return acted;
    }

    public int dice(int v) {
        int before = net.dice;
        net.dice = v;
        return before;
    }

    public int settle(int way, int n) {
        if (!isWay(way) || n < 0 || n > MOST_SETTLE) {
            return OUTSIDE;
        }
        if (!net.isBuilt) {
            return STATE;
        }
        for (int s = 0; s < n; s++) {
            if (net.isAtRest()) {
                return s;
            }
            net.act(net.choose(way));
        }
        return net.isAtRest() ? n : -1 - n;
    }

    // ---- what is told

    public int rest() {
        return net.isAtRest() ? 1 : 0;
    }

    public int distance(int i) {
        return net.shape.isNode(i) ? net.shape.far[i] : UNKNOWN;
    }

    public int wave() {
        net.seen = net.tally.result;
        return net.tally.waves;
    }

    public int entries(int i) {
        return net.shape.isNode(i) ? net.tally.entered[i] : UNKNOWN;
    }

    public int count(int what) {
        switch (what) {
            case 0: return net.shape.n;
            case 1: return net.shape.linkCount();
            case 2: return net.tally.steps;
            case 3: return net.tally.rounds;
            case 4: return net.isBuilt ? 1 : 0;
            case 5: return net.tally.done[SANE];
            case 6: return net.tally.done[TREE];
            case 7: return net.tally.done[WAVE];
            case 8: return net.tally.done[RING];
            default: return OUTSIDE;
        }
    }

    public int keep() {
        kept.copyFrom(net);
        isKept = true;
        return 1;
    }

    public int back() {
        if (!isKept) {
            return STATE;
        }
        net.copyFrom(kept);
        return 1;
    }

    public long digest() {
        long h = mix(mix(59L, net.shape.n), net.isBuilt ? 1 : 0);
        for (int i = 0; i < net.shape.n; i++) {
            h = mixNode(h, i);
        }
        return mix(h, net.dice);
    }

    private long mixNode(long start, int i) {
        int[] row = net.rows.own[i];
        long h = start;
        for (int slot = DIST; slot < X; slot++) {
            h = mix(h, row[slot]);
        }
        for (int j = 0; j < net.shape.n; j++) {
            if (has(net.shape.links[i], j)) {
                h = mix(mix(h, j), row[X + j]);
            }
        }
        return mix(h, net.tally.entered[i]);
    }

    private static long mix(long h, int number) {
        return 31L * h + number;
    }

    private static boolean isWay(int way) {
        return way >= ALL && way <= BY_DICE;
    }

    // ---- choices of NODES as bits: bit j is NODE j

    private static boolean has(int bits, int j) {
        return (bits >> j & 1) == 1;
    }

    /** The k-th of the NODES in bits, or NONE. */
    private static int pick(int bits, int k) {
        int left = k;
        for (int j = 0; j < MOST_NODES; j++) {
            if (has(bits, j)) {
                if (left == 0) {
                    return j;
                }
                left--;
            }
        }
        return NONE;
    }

    /** The greatest of the NODES in bits, which has none beyond MOST_NODES; or NONE. */
    private static int greatest(int bits) {
        for (int j = MOST_NODES - 1; j >= 0; j--) {
            if (bits >= 1 << j) {
                return j;
            }
        }
        return NONE;
    }

    /** The NODES with numbers less than j. */
    private static int below(int j) {
        return (1 << j) - 1;
    }

    /** Which NODES there are, and the LINKS between them. */
    private static final class Shape {
        int n = FEWEST_NODES;
        final int[] links = new int[MOST_NODES];
        /** TRUE DISTANCES: kept up with each LINK, as they are asked for far more often. */
        final int[] far = new int[MOST_NODES];

        Shape() {
            measure();
        }

        void clear(int nodes) {
            n = nodes;
            Arrays.fill(links, 0);
            measure();
        }

        void copyFrom(Shape other) {
            n = other.n;
            System.arraycopy(other.links, 0, links, 0, MOST_NODES);
            System.arraycopy(other.far, 0, far, 0, MOST_NODES);
        }

        boolean isNode(int i) {
            return i >= 0 && i < n;
        }

        void join(int a, int b, boolean is) {
            if (is) {
                links[a] |= 1 << b;
                links[b] |= 1 << a;
            } else {
                links[a] &= ~(1 << b);
                links[b] &= ~(1 << a);
            }
            measure();
        }

        int linkCount() {
            int ends = 0;
            for (int i = 0; i < n; i++) {
                ends += Integer.bitCount(links[i]);
            }
            return ends / 2;
        }

        private void measure() {
            Arrays.fill(far, NONE);
            int reached = 1 << ROOT;
            int edge = reached;
            for (int d = 0; d < n; d++) {
                int around = 0;
                for (int i = 0; i < n; i++) {
                    if (has(edge, i)) {
                        far[i] = d;
                        around |= links[i];
                    }
                }
                edge = around & ~reached;
                reached |= edge;
            }
        }

        boolean isWhole() {
            for (int i = 0; i < n; i++) {
                if (far[i] == NONE) {
                    return false;
                }
            }
            return true;
        }

        /** The PARENT of a NODE in the tree of shortest ways. */
        int nearer(int i) {
            if (i == ROOT) {
                return NONE;
            }
            for (int j = 0; j < n; j++) {
                if (has(links[i], j) && far[j] == far[i] - 1) {
                    return j;
                }
            }
            return NONE;
        }

        /** NODES in bits and all their NEIGHBOURS. */
        int around(int bits) {
            int all = bits;
            for (int i = 0; i < n; i++) {
                if (has(bits, i)) {
                    all |= links[i];
                }
            }
            return all;
        }

        /** Where 'what' of a NODE stands in its row, or NONE if there is no such. */
        int slotOf(int i, int what) {
            if (what < X) {
                return what < DIST ? NONE : what;
            }
            int j = pick(links[i], what - X);
            return j == NONE ? NONE : X + j;
        }

        /** What v counts as in a slot of NODE i: itself, if it is SANE there. */
        int countsAs(int i, int slot, int v) {
            switch (slot) {
                case DIST: return v >= 0 && v <= n ? v : n;
                case PARENT: return isNode(v) && has(links[i], v) ? v : NONE;
                case PHASE: return v >= CLEAN && v <= UP ? v : CLEAN;
                case SUM:
                case VALUE: return v;
                default: return v >= 0 && v <= greatestX() ? v : 0;
            }
        }

        /** K - 1. */
        int greatestX() {
            return 2 * n;
        }
    }

    /** The VARIABLES and VALUES, as they are and as they are read. */
    private static final class Rows {
        final int[][] own = new int[MOST_NODES][SLOTS];
        /** What each of own counts as: the RULES read this and write own, so all can act at once. */
        final int[][] read = new int[MOST_NODES][SLOTS];
        final int[] children = new int[MOST_NODES];
        final int[] ties = new int[MOST_NODES];

        Rows() {
            clear();
        }

        void clear() {
            for (int i = 0; i < MOST_NODES; i++) {
                Arrays.fill(own[i], 0);
                Arrays.fill(read[i], 0);
                own[i][PARENT] = NONE;
                read[i][PARENT] = NONE;
            }
            Arrays.fill(children, 0);
            Arrays.fill(ties, 0);
        }

        void copyFrom(Rows other) {
            for (int i = 0; i < MOST_NODES; i++) {
                System.arraycopy(other.own[i], 0, own[i], 0, SLOTS);
                System.arraycopy(other.read[i], 0, read[i], 0, SLOTS);
            }
            System.arraycopy(other.children, 0, children, 0, MOST_NODES);
            System.arraycopy(other.ties, 0, ties, 0, MOST_NODES);
        }

        boolean isSane(int i) {
            for (int slot = 0; slot < SLOTS; slot++) {
                if (own[i][slot] != read[i][slot]) {
                    return false;
                }
            }
            return true;
        }

        /** Brings what is read up to date behind a change of the NODES in bits. */
        void readAgain(Shape shape, int bits) {
            for (int i = 0; i < shape.n; i++) {
                if (has(bits, i)) {
                    for (int slot = 0; slot < SLOTS; slot++) {
                        read[i][slot] = shape.countsAs(i, slot, own[i][slot]);
                    }
                }
            }
            tieAgain(shape.n);
        }

        private void tieAgain(int n) {
            Arrays.fill(children, 0);
            Arrays.fill(ties, 0);
            for (int i = 0; i < n; i++) {
                int parent = read[i][PARENT];
                if (parent >= 0 && parent < n) {
                    children[parent] |= 1 << i;
                    ties[parent] |= 1 << i;
                    ties[i] |= 1 << parent;
                }
            }
        }
    }

    /** How often what was done since the NODES were opened. */
    private static final class Tally {
        int steps = 0;
        int rounds = 0;
        int waves = 0;
        int result = 0;
        final int[] done = new int[RULES];
        final int[] entered = new int[MOST_NODES];

        void clear() {
            steps = 0;
            rounds = 0;
            waves = 0;
            result = 0;
            Arrays.fill(done, 0);
            Arrays.fill(entered, 0);
        }

        void copyFrom(Tally other) {
            steps = other.steps;
            rounds = other.rounds;
            waves = other.waves;
            result = other.result;
            System.arraycopy(other.done, 0, done, 0, RULES);
            System.arraycopy(other.entered, 0, entered, 0, MOST_NODES);
        }
    }

    /** The RULES 0 to 3: by which a NODE is ENABLED, and what it does when it ACTS. */
    private static final class Rules {

        static int firstRule(Net net, int i) {
            if (!net.rows.isSane(i)) {
                return SANE;
            }
            int[] mine = net.rows.read[i];
            int parent = parentToBe(net, i);
            if (mine[PARENT] != parent || mine[DIST] != distToBe(net, i, parent)) {
                return TREE;
            }
            if (mine[PHASE] != phaseToBe(net, i)) {
                return WAVE;
            }
            return rightsOf(net, i) == 0 ? NONE : RING;
        }

        /** NODE i, which is ENABLED, ACTS. */
        static void doRules(Net net, int i) {
            int first = firstRule(net, i);
            if (first == SANE) {
                doSane(net, i);
            } else if (first == TREE) {
                doTree(net, i);
            } else {
                doWave(net, i);
                doRing(net, i);
            }
        }

        private static void doSane(Net net, int i) {
            net.tally.done[SANE]++;
            System.arraycopy(net.rows.read[i], 0, net.rows.own[i], 0, SLOTS);
        }

        private static void doTree(Net net, int i) {
            net.tally.done[TREE]++;
            int parent = parentToBe(net, i);
            net.rows.own[i][PARENT] = parent;
            net.rows.own[i][DIST] = distToBe(net, i, parent);
        }

        private static void doWave(Net net, int i) {
            int phase = net.rows.read[i][PHASE];
            int phaseToBe = phaseToBe(net, i);
            if (phaseToBe == phase) {
                return;
            }
            net.tally.done[WAVE]++;
            net.rows.own[i][PHASE] = phaseToBe;
            boolean isWaveDone = i == ROOT && phase == DOWN;
            if (isWaveDone || phaseToBe == UP) {
                net.rows.own[i][SUM] = sumToBe(net, i);
            }
            if (isWaveDone) {
                net.tally.waves++;
                net.tally.result = net.rows.own[i][SUM];
            }
        }

        private static void doRing(Net net, int i) {
            int j = pick(rightsOf(net, i), 0);
            if (j == NONE) {
                return;
            }
            net.tally.done[RING]++;
            net.tally.entered[i]++;
            int x = xBefore(net, i, j);
            if (isBottom(net, i, j)) {
                x = x < net.shape.greatestX() ? x + 1 : 0;
            }
            net.rows.own[i][X + j] = x;
        }

        private static int parentToBe(Net net, int i) {
            if (i == ROOT) {
                return NONE;
            }
            int[][] read = net.rows.read;
            int least = NONE;
            for (int j = 0; j < net.shape.n; j++) {
                if (has(net.shape.links[i], j)
                        && (least == NONE || read[j][DIST] < read[least][DIST])) {
                    least = j;
                }
            }
            return least;
        }

        private static int distToBe(Net net, int i, int parent) {
            if (i == ROOT) {
                return 0;
            }
            int n = net.shape.n;
            return parent == NONE ? n : Math.min(net.rows.read[parent][DIST] + 1, n);
        }

        /** The PHASE that WAVE gives: another one than that which is, just if WAVE is ENABLED. */
        private static int phaseToBe(Net net, int i) {
            boolean isRoot = i == ROOT;
            int above = phaseAbove(net, i);
            switch (net.rows.read[i][PHASE]) {
                case CLEAN:
                    return (isRoot || above == DOWN) && areChildren(net, i, CLEAN) ? DOWN : CLEAN;
                case DOWN:
                    if (!isRoot && above != DOWN) {
                        return CLEAN;
                    }
                    if (!areChildren(net, i, UP)) {
                        return DOWN;
                    }
                    return isRoot ? CLEAN : UP;
                default:
                    return isRoot || above == CLEAN ? CLEAN : UP;
            }
        }

        private static int phaseAbove(Net net, int i) {
            int parent = net.rows.read[i][PARENT];
            return parent == NONE ? CLEAN : net.rows.read[parent][PHASE];
        }

        private static boolean areChildren(Net net, int i, int phase) {
            for (int j = 0; j < net.shape.n; j++) {
                if (has(net.rows.children[i], j) && net.rows.read[j][PHASE] != phase) {
                    return false;
                }
            }
            return true;
        }

        private static int sumToBe(Net net, int i) {
            int sum = net.rows.read[i][VALUE];
            for (int j = 0; j < net.shape.n; j++) {
                if (has(net.rows.children[i], j)) {
                    sum += net.rows.read[j][SUM];
                }
            }
            return sum;
        }

        /** Those TIES j of NODE i, as bits, of which (i, j) HAS THE RIGHT. */
        static int rightsOf(Net net, int i) {
            int found = 0;
            for (int j = 0; j < net.shape.n; j++) {
                if (has(net.rows.ties[i], j)) {
                    boolean isSame = net.rows.read[i][X + j] == xBefore(net, i, j);
                    if (isSame == isBottom(net, i, j)) {
                        found |= 1 << j;
                    }
                }
            }
            return found;
        }

        static int rightsInAll(Net net) {
            int all = 0;
            for (int i = 0; i < net.shape.n; i++) {
                all += Integer.bitCount(rightsOf(net, i));
            }
            return all;
        }

        private static boolean isBottom(Net net, int i, int j) {
            return i == ROOT && (net.rows.ties[i] & below(j)) == 0;
        }

        /** The X of the POSITION BEFORE (i, j). */
        private static int xBefore(Net net, int i, int j) {
            int ties = net.rows.ties[i];
            int ahead = ties & below(j);
            int p = greatest(ahead == 0 ? ties : ahead);
            return p == NONE ? 0 : net.rows.read[p][X + i];
        }
    }

    /** All that is kept and brought back. */
    private static final class Net {
        final Shape shape = new Shape();
        final Rows rows = new Rows();
        final Tally tally = new Tally();
        boolean isBuilt = false;
        int dice = 0;
        int seen = 0;
        /** The NODE whose turn is next by way 3. */
        int turn = ROOT;
        /** The NODES that are ENABLED. */
        int ready = 0;
        /** The NODES for which the ROUND still waits. */
        int awaited = 0;

        void clear(int n) {
            shape.clear(n);
            rows.clear();
            tally.clear();
            isBuilt = false;
            turn = ROOT;
            ready = 0;
            awaited = 0;
        }

        void copyFrom(Net other) {
            shape.copyFrom(other.shape);
            rows.copyFrom(other.rows);
            tally.copyFrom(other.tally);
            isBuilt = other.isBuilt;
            dice = other.dice;
            seen = other.seen;
            turn = other.turn;
            ready = other.ready;
            awaited = other.awaited;
        }

        void overwrite(int i, int slot, int v) {
            rows.own[i][slot] = v;
            rows.readAgain(shape, 1 << i);
        }

        /** A ROUND begins behind what came from outside; none while it is building. */
        void beginAnew() {
            if (isBuilt) {
                lookAgain(below(shape.n));
                awaited = ready;
            }
        }

        /** Which of the NODES in bits are ENABLED is found out anew. */
        private void lookAgain(int bits) {
            for (int i = 0; i < shape.n; i++) {
                if (has(bits, i)) {
                    ready &= ~(1 << i);
                    if (Rules.firstRule(this, i) != NONE) {
                        ready |= 1 << i;
                    }
                }
            }
        }

        /** The NODES of the next STEP by a way. */
        int choose(int way) {
            switch (way) {
                case ALL: return ready;
                case LEAST: return ready & -ready;
                case GREATEST: return ready == 0 ? 0 : 1 << greatest(ready);
                case IN_TURN: return takeTurn();
                default: return rollDice();
            }
        }

        private int takeTurn() {
            int chosen = 1 << turn;
            turn = turn + 1 < shape.n ? turn + 1 : ROOT;
            return chosen;
        }

        private int rollDice() {
            dice = 1103515245 * dice + 12345;
            return dice >> 8;
        }

        /** A STEP of the NODES in bits: how many ACTED. */
        int act(int bits) {
            int acting = bits & ready;
            if (acting == 0) {
                return 0;
            }
            for (int i = 0; i < shape.n; i++) {
                if (has(acting, i)) {
                    Rules.doRules(this, i);
                }
            }
            rows.readAgain(shape, acting);
            // A NODE sees its NEIGHBOURS alone, so no other one can have changed.
            lookAgain(shape.around(acting));
            tally.steps++;
            endRound(acting);
            return Integer.bitCount(acting);
        }

        private void endRound(int acted) {
            awaited &= ready & ~acted;
            if (awaited == 0) {
                tally.rounds++;
                awaited = ready;
            }
        }

        boolean isAtRest() {
            if (!isBuilt) {
                return false;
            }
            for (int i = 0; i < shape.n; i++) {
                if (rows.own[i][DIST] != shape.far[i] || rows.own[i][PARENT] != shape.nearer(i)
                        || !rows.isSane(i)) {
                    return false;
                }
            }
            return Rules.rightsInAll(this) == 1;
        }
    }
}
