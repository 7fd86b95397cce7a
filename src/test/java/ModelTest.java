import java.util.Random;

/** Runs of calls drawn from fixed seeds: StableNet answers each as the Model does. */
public final class ModelTest {
    /** What an object answers beyond 512 calls is free. */
    private static final int RUNS = 3000, CALLS = 512;
    /** As many as makeNet() and compareAll(), and that once more at the end, can take. */
    private static final int CALLS_AT_ONCE = 160;
    private static final int[] EDGES = {
        Integer.MIN_VALUE, -1000, -6, -5, -2, -1, 0, 1, 2, 3, 4, 5, 6, 9, 11, 12, 13, 16, 17, 24, 25, 26,
        99, 299, 300, 301, 2000, 2001, Integer.MAX_VALUE - 1, Integer.MAX_VALUE
    };

    private final Random random;
    private final StableNet net = new StableNet();
    private final Model model = new Model();
    private int n = 2;
    private int calls = 0;
    private String call = "";

    private ModelTest(long seed) {
        random = new Random(seed);
    }

    public static void main(String[] args) {
        for (int seed = 1; seed <= RUNS && !Check.isWrong(); seed++) {
            new ModelTest(seed).run(seed);
        }
        Check.end("ModelTest");
    }

    private void run(int seed) {
        if (seed % 8 == 0) {
            linkAndBuild();
        } else {
            makeNet();
        }
        while (calls + CALLS_AT_ONCE < CALLS && !Check.isWrong()) {
            int kind = random.nextInt(100);
            if (kind < 1) {
                makeNet();
            } else {
                oneCall(kind);
            }
            if (random.nextInt(16) == 0) {
                compareAll();
            }
        }
        compareAll();
        if (Check.isWrong()) {
            System.out.println("in the run of seed " + seed);
        }
    }

    /** A net that is whole mostly, and built mostly. */
    private void makeNet() {
        n = 2 + random.nextInt(11);
        due("open(" + n + ")", net.open(n), model.open(n));
        linkAndBuild();
    }

    private void linkAndBuild() {
        for (int i = 1; i < n; i++) {
            if (random.nextInt(60) != 0) {
                link(i, random.nextInt(3) == 0 ? i - 1 : random.nextInt(i), true);
            }
        }
        for (int more = random.nextInt(n); more > 0; more--) {
            link(random.nextInt(n), random.nextInt(n), random.nextInt(4) != 0);
        }
        for (int i = 0; i < n; i++) {
            int v = random.nextInt(4) == 0 ? random.nextInt() : random.nextInt(1000);
            due("value(" + i + ", " + v + ")", net.value(i, v), model.value(i, v));
        }
        if (random.nextInt(10) != 0) {
            due("build()", net.build(), model.build());
        }
    }

    private void link(int a, int b, boolean is) {
        due("link(" + a + ", " + b + ", " + is + ")", net.link(a, b, is), model.link(a, b, is));
    }

    private int node() {
        return random.nextInt(12) == 0 ? number() : random.nextInt(n);
    }

    private int number() {
        return EDGES[random.nextInt(EDGES.length)];
    }

    private int small() {
        return random.nextInt(10) == 0 ? number() : random.nextInt(8);
    }

    private int what() {
        return random.nextInt(10) == 0 ? number() : random.nextInt(9);
    }

    private int way() {
        return random.nextInt(15) == 0 ? number() : random.nextInt(5);
    }

    private int steps() {
        return random.nextInt(20) == 0 ? number() : random.nextInt(12);
    }

    private int broken() {
        return random.nextBoolean() ? number() : random.nextInt(2 * n + 3) - 1;
    }

    private void due(String what, long got, long want) {
        calls++;
        call = what;
        if (!Check.isWrong()) {
            Check.due(call, got, want);
        }
    }

    private void oneCall(int kind) {
        int i = node();
        int j = node();
        int k = small();
        int v = broken();
        int w = what();
        int way = way();
        int s = steps();
        if (kind < 22) {
            due("fault(" + i + ", " + w + ", " + v + ")", net.fault(i, w, v), model.fault(i, w, v));
        } else if (kind < 36) {
            int nodes = random.nextInt();
            due("step(" + nodes + ")", net.step(nodes), model.step(nodes));
        } else if (kind < 46) {
            due("run(" + way + ", " + s + ")", net.run(way, s), model.run(way, s));
        } else if (kind < 48) {
            due("settle(" + way + ", " + s + ")", net.settle(way, s), model.settle(way, s));
        } else if (kind < 49) {
            int many = random.nextInt(120);
            due("settle(" + way + ", " + many + ")", net.settle(way, many), model.settle(way, many));
        } else {
            readingCall(kind, i, j, k, w);
        }
    }

    private void readingCall(int kind, int i, int j, int k, int w) {
        int v = number();
        switch ((kind - 49) / 2) {
            case 0 -> openWrongly(v);
            case 1 -> link(i, j, k < 6);
            case 2 -> due("build()", net.build(), model.build());
            case 3 -> due("value(" + i + ", " + v + ")", net.value(i, v), model.value(i, v));
            case 4 -> due("told(" + i + ", " + w + ")", net.told(i, w), model.told(i, w));
            case 5 -> due("seen()", net.seen(), model.seen());
            case 6 -> due("neighbour(" + i + ", " + k + ")", net.neighbour(i, k), model.neighbour(i, k));
            case 7 -> due("child(" + i + ", " + k + ")", net.child(i, k), model.child(i, k));
            case 8 -> due("enabled(" + i + ")", net.enabled(i), model.enabled(i));
            case 9 -> due("rights()", net.rights(), model.rights());
            case 10 -> due("holder(" + k + ")", net.holder(k), model.holder(k));
            case 11, 12 -> due("next(" + i + ", " + j + ")", net.next(i, j), model.next(i, j));
            case 13 -> due("dice(" + v + ")", net.dice(v), model.dice(v));
            case 14 -> due("rest()", net.rest(), model.rest());
            case 15 -> due("distance(" + i + ")", net.distance(i), model.distance(i));
            case 16 -> due("wave()", net.wave(), model.wave());
            case 17 -> due("entries(" + i + ")", net.entries(i), model.entries(i));
            case 18 -> due("count(" + w + ")", net.count(w), model.count(w));
            case 19 -> due("digest()", net.digest(), model.digest());
            case 20 -> due("keep()", net.keep(), model.keep());
            case 21 -> due("back()", net.back(), model.back());
            default -> due("step(-1)", net.step(-1), model.step(-1));
        }
        n = model.count(0);
    }

    /** A right open() would end the net too often: makeNet() has those. */
    private void openWrongly(int v) {
        int nodes = v >= 2 && v <= 12 ? 13 : v;
        due("open(" + nodes + ")", net.open(nodes), model.open(nodes));
    }

    private void compareAll() {
        String behind = " behind " + call;
        due("digest()" + behind, net.digest(), model.digest());
        for (int what = -1; what < 10; what++) {
            due("count(" + what + ")" + behind, net.count(what), model.count(what));
        }
        due("rest()" + behind, net.rest(), model.rest());
        due("rights()" + behind, net.rights(), model.rights());
        for (int i = 0; i < n; i++) {
            due("enabled(" + i + ")" + behind, net.enabled(i), model.enabled(i));
            due("child(" + i + ", 0)" + behind, net.child(i, 0), model.child(i, 0));
            due("holder(" + i + ")" + behind, net.holder(i), model.holder(i));
            due("distance(" + i + ")" + behind, net.distance(i), model.distance(i));
        }
    }
}
