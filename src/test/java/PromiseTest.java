/** For each promise of the document answers that were worked out by hand. */
public final class PromiseTest {
    private static final int NONE = -1, UNKNOWN = -101, OUTSIDE = -102, STATE = -103;
    private static final int LOW = Integer.MIN_VALUE, HIGH = Integer.MAX_VALUE;
    private static final int[] NO_PLACE = {LOW, -2, -1};

    public static void main(String[] args) {
        newObject();
        open();
        openKeepsAndForgets();
        link();
        build();
        value();
        fault();
        faultRefused();
        told();
        seen();
        neighbour();
        child();
        enabled();
        enabledOfTheRoot();
        rights();
        holder();
        next();
        stepByHand();
        stepIsAtOnce();
        saneRule();
        treeRule();
        waveRule();
        ringRule();
        run();
        runInTurn();
        runByDice();
        dice();
        settle();
        rest();
        distance();
        wave();
        entries();
        count();
        rounds();
        roundsAnew();
        keepAndBack();
        digest();
        refusalsChangeNothing();
        Check.end("PromiseTest");
    }

    private static void due(String call, long got, long want) {
        Check.due(call, got, want);
    }

    /** NODES 0 to n - 1 in a line, not built. */
    private static StableNet line(int n) {
        StableNet x = new StableNet();
        x.open(n);
        for (int i = 1; i < n; i++) {
            x.link(i - 1, i, true);
        }
        return x;
    }

    private static StableNet builtLine(int n) {
        StableNet x = line(n);
        x.build();
        return x;
    }

    /** The ROOT amid n - 1 others, built, each of which has found its PARENT. */
    private static StableNet star(int n) {
        StableNet x = new StableNet();
        x.open(n);
        for (int i = 1; i < n; i++) {
            x.link(0, i, true);
        }
        x.build();
        x.step(-2);
        return x;
    }

    private static void dueVariable(String of, StableNet x, int i, int what, int want) {
        due(of + " told(" + i + ", " + what + ")", x.told(i, what), 1);
        due(of + " seen() of " + i + ", " + what, x.seen(), want);
    }

    private static void dueNode(String of, StableNet x, int i, int... want) {
        for (int what = 0; what < want.length; what++) {
            dueVariable(of, x, i, what, want[what]);
        }
    }

    private static long hash(long... numbers) {
        long h = 59;
        for (long number : numbers) {
            h = 31 * h + number;
        }
        return h;
    }

    // ---- 1
    private static void newObject() {
        StableNet x = new StableNet();
        due("1 seen()", x.seen(), 0);
        due("1 count(0)", x.count(0), 2);
        for (int what = 1; what < 9; what++) {
            due("1 count(" + what + ")", x.count(what), 0);
        }
        for (int i = 0; i < 2; i++) {
            dueNode("1", x, i, 0, NONE, 0, 0, 0);
            due("1 neighbour", x.neighbour(i, 0), NONE);
            due("1 entries", x.entries(i), 0);
        }
        due("1 told(2, 0)", x.told(2, 0), UNKNOWN);
        due("1 dice", x.dice(0), 0);
        due("1 wave", x.wave(), 0);
        due("1 back", x.back(), STATE);
        due("1 digest", x.digest(), hash(2, 0, 0, -1, 0, 0, 0, 0, 0, -1, 0, 0, 0, 0, 0));
        due("1 the ROOT", x.distance(0), 0);
        due("1 not reached", x.distance(1), NONE);
        x.link(0, 1, true);
        due("1 it can be built", x.build(), 1);
        due("1 no WAVE", x.wave(), 0);
        due("1 no RESULT", x.seen(), 0);
        due("1 the ROOT has the first turn", x.run(3, 1), 1);
        dueVariable("1 ROOT", x, 0, 2, 1);
    }

    // ---- 2
    private static void open() {
        StableNet x = new StableNet();
        due("2 open(2)", x.open(2), 2);
        due("2 open(12)", x.open(12), 2);
        due("2 count(0)", x.count(0), 12);
        for (int n : new int[] {LOW, -1, 0, 1, 13, HIGH}) {
            due("2 open(" + n + ")", x.open(n), OUTSIDE);
        }
        due("2 open(3)", x.open(3), 12);
        due("2 distance(3)", x.distance(3), UNKNOWN);
    }

    private static void openKeepsAndForgets() {
        StableNet x = builtLine(3);
        x.value(1, 7);
        x.dice(5);
        x.told(1, 4);
        x.keep();
        x.fault(1, 3, 9);
        x.run(3, 4);
        x.run(0, 9);
        due("2 open(3) again", x.open(3), 3);
        for (int what = 1; what < 9; what++) {
            due("2 count(" + what + ")", x.count(what), 0);
        }
        for (int i = 0; i < 3; i++) {
            due("2 neighbour", x.neighbour(i, 0), NONE);
            due("2 entries", x.entries(i), 0);
        }
        due("2 SEEN stays", x.seen(), 7);
        due("2 DICE stay", x.dice(5), 5);
        due("2 wave", x.wave(), 0);
        due("2 no RESULT", x.seen(), 0);
        dueNode("2", x, 1, 0, NONE, 0, 0, 0);
        x.link(0, 1, true);
        x.link(1, 2, true);
        x.build();
        due("2 the ROOT has the first turn", x.run(3, 1), 1);
        dueVariable("2 ROOT", x, 0, 2, 1);
        due("2 what was kept stays", x.back(), 1);
        dueVariable("2 kept", x, 1, 4, 7);
        openIsAsNew();
    }

    private static void openIsAsNew() {
        StableNet x = star(4);
        for (int i = 1; i < 4; i++) {
            x.fault(i, 5, i);
        }
        x.fault(0, 0, -3);
        x.open(4);
        due("2 no CHILD", x.child(0, 0), NONE);
        due("2 no RIGHT", x.rights(), 0);
        due("2 no holder", x.holder(0), NONE);
        due("2 no TIE", x.next(0, 1), OUTSIDE);
        for (int i = 1; i < 4; i++) {
            x.link(0, i, true);
        }
        x.build();
        due("2 WAVE of the ROOT", x.enabled(0), 2);
        x.step(-2);
        due("2 one RIGHT", x.rights(), 1);
        due("2 as a new one", x.digest(), star(4).digest());
        x.run(0, 20);
        StableNet y = star(4);
        y.run(0, 20);
        due("2 and on", x.digest(), y.digest());
    }

    // ---- 3
    private static void link() {
        StableNet x = new StableNet();
        x.open(4);
        due("3 link", x.link(1, 3, true), 0);
        due("3 link again", x.link(1, 3, true), 1);
        due("3 the other way round", x.link(3, 1, true), 1);
        due("3 count(1)", x.count(1), 1);
        due("3 neighbour", x.neighbour(3, 0), 1);
        due("3 unlink", x.link(3, 1, false), 1);
        due("3 unlink again", x.link(1, 3, false), 0);
        due("3 count(1) behind", x.count(1), 0);
        due("3 UNKNOWN a", x.link(4, 0, true), UNKNOWN);
        due("3 UNKNOWN b", x.link(0, -1, true), UNKNOWN);
        due("3 UNKNOWN ahead of OUTSIDE", x.link(4, 4, true), UNKNOWN);
        due("3 OUTSIDE", x.link(2, 2, true), OUTSIDE);
        due("3 OUTSIDE, not is", x.link(2, 2, false), OUTSIDE);
        StableNet y = builtLine(3);
        due("3 STATE", y.link(0, 2, true), STATE);
        due("3 STATE, not is", y.link(0, 1, false), STATE);
        due("3 OUTSIDE ahead of STATE", y.link(1, 1, true), OUTSIDE);
        due("3 UNKNOWN ahead of STATE", y.link(3, 1, true), UNKNOWN);
        due("3 as it was", y.count(1), 2);
    }

    // ---- 4
    private static void build() {
        StableNet x = new StableNet();
        due("4 no LINK", x.build(), STATE);
        x.open(4);
        x.link(0, 1, true);
        x.link(2, 3, true);
        due("4 two parts", x.build(), STATE);
        due("4 building", x.count(4), 0);
        x.link(1, 3, true);
        x.link(1, 2, true);
        due("4 build", x.build(), 4);
        due("4 built", x.count(4), 1);
        due("4 already", x.build(), STATE);
        dueVariable("4 X", x, 1, 5, 0);
        dueVariable("4 X", x, 1, 7, 0);
    }

    // ---- 5
    private static void value() {
        StableNet x = line(2);
        due("5 first", x.value(1, LOW), 0);
        due("5 second", x.value(1, HIGH), LOW);
        due("5 other", x.value(0, 3), 0);
        due("5 UNKNOWN", x.value(2, 1), UNKNOWN);
        due("5 UNKNOWN", x.value(-1, 1), UNKNOWN);
        x.build();
        due("5 built", x.value(1, 8), HIGH);
        dueVariable("5", x, 1, 4, 8);
    }

    // ---- 6
    private static void fault() {
        StableNet x = builtLine(3);
        for (int what : new int[] {0, 1, 2, 3, 5, 6}) {
            for (int v : new int[] {LOW, -2, 77, HIGH, what + 1}) {
                due("6 fault(1, " + what + ", " + v + ")", x.fault(1, what, v), 1);
                dueVariable("6", x, 1, what, v);
            }
        }
        dueNode("6 all", x, 1, 1, 2, 3, 4, 0, 6, 7);
        dueNode("6 others", x, 0, 0, NONE, 0, 0, 0, 0);
        dueNode("6 others", x, 2, 0, NONE, 0, 0, 0, 0);
    }

    private static void faultRefused() {
        StableNet x = line(3);
        due("6 STATE", x.fault(1, 0, 1), STATE);
        due("6 STATE of X", x.fault(1, 6, 1), STATE);
        due("6 OUTSIDE ahead of STATE", x.fault(1, 7, 1), OUTSIDE);
        due("6 VALUE ahead of STATE", x.fault(1, 4, 1), OUTSIDE);
        due("6 UNKNOWN ahead of all", x.fault(3, 4, 1), UNKNOWN);
        x.build();
        for (int what : new int[] {LOW, -1, 4, 7, HIGH}) {
            due("6 fault(1, " + what + ", 1)", x.fault(1, what, 1), OUTSIDE);
        }
        due("6 no second NEIGHBOUR", x.fault(2, 6, 1), OUTSIDE);
        due("6 UNKNOWN", x.fault(-1, 0, 1), UNKNOWN);
        due("6 UNKNOWN", x.fault(3, 0, 1), UNKNOWN);
    }

    // ---- 7
    private static void told() {
        StableNet x = line(3);
        x.value(1, 6);
        dueNode("7 building", x, 1, 0, NONE, 0, 0, 6);
        due("7 STATE", x.told(1, 5), STATE);
        due("7 STATE", x.told(1, 6), STATE);
        due("7 OUTSIDE ahead of STATE", x.told(1, 7), OUTSIDE);
        due("7 a refusal leaves SEEN", x.seen(), 6);
        x.build();
        due("7 told", x.told(1, 6), 1);
        due("7 SEEN", x.seen(), 0);
        for (int what : new int[] {LOW, -1, 7, 17, HIGH}) {
            due("7 told(1, " + what + ")", x.told(1, what), OUTSIDE);
        }
        due("7 UNKNOWN", x.told(3, 0), UNKNOWN);
        due("7 UNKNOWN ahead of OUTSIDE", x.told(-1, -1), UNKNOWN);
    }

    // ---- 8
    private static void seen() {
        StableNet x = builtLine(2);
        due("8 at first", x.seen(), 0);
        x.value(1, 31);
        due("8 value() is not seen", x.seen(), 0);
        x.told(1, 4);
        due("8 told", x.seen(), 31);
        due("8 once more", x.seen(), 31);
        x.wave();
        due("8 wave", x.seen(), 0);
    }

    // ---- 9
    private static void neighbour() {
        StableNet x = new StableNet();
        x.open(12);
        x.link(5, 11, true);
        x.link(5, 0, true);
        x.link(7, 5, true);
        due("9 first", x.neighbour(5, 0), 0);
        due("9 second", x.neighbour(5, 1), 7);
        due("9 third", x.neighbour(5, 2), 11);
        due("9 no fourth", x.neighbour(5, 3), NONE);
        for (int k : new int[] {LOW, -1, 12, 32, HIGH}) {
            due("9 neighbour(5, " + k + ")", x.neighbour(5, k), NONE);
        }
        due("9 none", x.neighbour(1, 0), NONE);
        due("9 UNKNOWN", x.neighbour(12, 0), UNKNOWN);
        due("9 UNKNOWN", x.neighbour(-1, -1), UNKNOWN);
    }

    // ---- 10
    private static void child() {
        StableNet x = line(4);
        due("10 building", x.child(0, 0), NONE);
        x.build();
        due("10 built", x.child(0, 0), NONE);
        x.fault(1, 1, 2);
        x.fault(3, 1, 2);
        due("10 first", x.child(2, 0), 1);
        due("10 second", x.child(2, 1), 3);
        due("10 third", x.child(2, 2), NONE);
        due("10 not -1", x.child(2, -1), NONE);
        x.fault(3, 1, 0);
        due("10 no NEIGHBOUR, no CHILD", x.child(0, 0), NONE);
        due("10 gone", x.child(2, 1), NONE);
        StableNet y = star(3);
        due("10 a PARENT is no CHILD", y.child(1, 0), NONE);
        y.fault(1, 1, NONE);
        y.fault(0, 1, 1);
        due("10 the ROOT as a CHILD", y.child(1, 0), 0);
        due("10 UNKNOWN", x.child(4, 0), UNKNOWN);
        due("10 UNKNOWN", x.child(-1, 0), UNKNOWN);
    }

    // ---- 11
    private static void enabled() {
        StableNet x = line(2);
        due("11 STATE", x.enabled(0), STATE);
        due("11 UNKNOWN ahead of STATE", x.enabled(2), UNKNOWN);
        x.build();
        due("11 WAVE", x.enabled(0), 2);
        due("11 TREE", x.enabled(1), 1);
        due("11 UNKNOWN", x.enabled(-1), UNKNOWN);
        x.step(-1);
        due("11 RING", x.enabled(0), 3);
        due("11 WAVE of another", x.enabled(1), 2);
        x.step(1);
        due("11 NONE", x.enabled(0), NONE);
        int[][] broken = {{0, 3}, {0, -1}, {1, -2}, {1, 1}, {1, 2}, {2, 3}, {2, -1}, {5, 5}, {5, -1}};
        for (int[] f : broken) {
            StableNet y = builtLine(2);
            y.fault(1, f[0], f[1]);
            due("11 SANE " + f[0] + ", " + f[1], y.enabled(1), 0);
        }
        int[][] sound = {{0, 0}, {0, 2}, {1, -1}, {2, 2}, {3, LOW}, {5, 4}};
        for (int[] f : sound) {
            StableNet y = builtLine(2);
            y.fault(1, f[0], f[1]);
            due("11 TREE " + f[0] + ", " + f[1], y.enabled(1), 1);
        }
    }

    private static void enabledOfTheRoot() {
        StableNet x = builtLine(2);
        x.fault(0, 0, 1);
        due("11 ROOT, DIST", x.enabled(0), 1);
        x.fault(0, 0, 0);
        x.fault(0, 1, 1);
        due("11 ROOT, PARENT", x.enabled(0), 1);
        x.fault(0, 1, 0);
        due("11 ROOT, no NEIGHBOUR", x.enabled(0), 0);
        x.step(1);
        dueNode("11 ROOT", x, 0, 0, NONE, 0, 0, 0, 0);
    }

    // ---- 12
    private static void rights() {
        StableNet x = line(3);
        due("12 building", x.rights(), 0);
        x.build();
        due("12 without TIES", x.rights(), 0);
        x.run(0, 1);
        // The PARENTS are 0 and 1: the ring is (0,1) (1,2) (2,1) (1,0), all X are 0.
        due("12 BOTTOM", x.rights(), 1);
        x.fault(1, 6, 3);
        // (1,2) and (2,1) differ from those BEFORE them.
        due("12 three", x.rights(), 3);
        x.fault(1, 6, 7);
        due("12 X that is not SANE counts as 0", x.rights(), 1);
        x.fault(1, 6, 6);
        due("12 K - 1 is SANE", x.rights(), 3);
        x.fault(2, 1, 2);
        // Without (1,2) and (2,1) there are (0,1) and (1,0) alone.
        due("12 PARENT that is not SANE", x.rights(), 1);
        StableNet y = star(3);
        y.fault(1, 1, NONE);
        y.fault(0, 1, 1);
        // BOTTOM is (0,1), as the PARENT of the ROOT is a TIE, too.
        due("12 BOTTOM at a PARENT", y.rights(), 1);
        y.fault(1, 5, 1);
        due("12 (1,0) and (0,2)", y.rights(), 3);
    }

    // ---- 13
    private static void holder() {
        StableNet x = line(3);
        due("13 building", x.holder(0), NONE);
        x.build();
        x.run(0, 1);
        due("13 BOTTOM", x.holder(0), 0);
        due("13 no second", x.holder(1), NONE);
        x.fault(1, 5, 2);
        x.fault(1, 6, 3);
        // (0,1): 0 and 2 differ, no; (1,0): 2 and 0, yes; (1,2): 3 and 0, yes; (2,1): 0 and 3, yes.
        due("13 first", x.holder(0), 1);
        due("13 second", x.holder(1), 1);
        due("13 third", x.holder(2), 2);
        due("13 fourth", x.holder(3), NONE);
        for (int k : NO_PLACE) {
            due("13 holder(" + k + ")", x.holder(k), NONE);
        }
        due("13 holder(HIGH)", x.holder(HIGH), NONE);
    }

    // ---- 14
    private static void next() {
        StableNet x = star(4);
        due("14 (0,1)", x.next(0, 1), 0);
        due("14 (1,0)", x.next(1, 0), 2);
        due("14 (2,0)", x.next(2, 0), 3);
        due("14 (3,0)", x.next(3, 0), 1);
        due("14 no TIE", x.next(1, 2), OUTSIDE);
        due("14 itself", x.next(1, 1), OUTSIDE);
        due("14 UNKNOWN i", x.next(4, 0), UNKNOWN);
        due("14 UNKNOWN j", x.next(0, -1), UNKNOWN);
        x.fault(2, 1, 3);
        due("14 TIES that are left", x.next(1, 0), 3);
        due("14 NEIGHBOUR, no TIE", x.next(0, 2), OUTSIDE);
        StableNet z = star(12);
        due("14 the last one", z.next(11, 0), 1);
        due("14 ahead of it", z.next(10, 0), 11);
        due("14 twelve NODES, rights", z.rights(), 1);
        z.fault(11, 5, 1);
        due("14 twelve NODES, holder", z.holder(0), 11);
        StableNet y = line(3);
        due("14 building: no TIES", y.next(0, 1), OUTSIDE);
        due("14 building: UNKNOWN", y.next(0, 3), UNKNOWN);
        y.build();
        y.fault(1, 1, 2);
        y.fault(2, 1, 1);
        due("14 CHILD and PARENT are one TIE", y.next(1, 2), 1);
        y.fault(2, 1, NONE);
        y.fault(0, 1, 1);
        due("14 behind the CHILD 0 the PARENT 2", y.next(0, 1), 2);
    }

    // ---- 15 and the RULES
    private static void stepByHand() {
        StableNet x = line(2);
        due("15 STATE", x.step(1), STATE);
        x.value(0, 3);
        x.value(1, 4);
        x.build();
        due("15 none", x.step(0), 0);
        due("15 others are not looked at", x.step(~3), 0);
        due("15 both", x.step(3), 2);
        dueNode("15 ROOT", x, 0, 0, NONE, 1, 0, 3, 0);
        dueNode("15 other", x, 1, 1, 0, 0, 0, 4, 0);
        due("15 RING of the ROOT", x.step(LOW | 1), 1);
        dueVariable("15 X", x, 0, 5, 1);
        due("15 not ENABLED", x.step(1), 0);
        due("15 WAVE and RING", x.step(2), 1);
        dueNode("15 other, DOWN", x, 1, 1, 0, 1, 0, 4, 1);
        due("15 UP", x.step(-1), 2);
        dueNode("15 ROOT, RING", x, 0, 0, NONE, 1, 0, 3, 2);
        dueNode("15 other, UP", x, 1, 1, 0, 2, 4, 4, 1);
        due("15 WAVE is done", x.step(-1), 2);
        dueNode("15 ROOT, CLEAN", x, 0, 0, NONE, 0, 7, 3, 2);
        dueNode("15 other, RING", x, 1, 1, 0, 2, 4, 4, 2);
        due("15 the other gets CLEAN", x.step(2), 1);
        dueVariable("15 other", x, 1, 2, 0);
    }

    private static void stepIsAtOnce() {
        StableNet x = builtLine(3);
        x.step(-1);
        // NODE 2 took DIST 0 of NODE 1, which it had ahead of the STEP.
        dueNode("15 at once", x, 1, 1, 0);
        dueNode("15 at once", x, 2, 1, 1);
        StableNet y = star(3);
        y.fault(0, 2, 1);
        y.fault(1, 2, 2);
        y.fault(2, 2, 1);
        y.fault(1, 3, 10);
        y.fault(2, 3, 20);
        y.value(2, 5);
        y.step(4);
        y.fault(2, 2, 1);
        y.fault(2, 3, 20);
        y.step(-1);
        // NODE 2 was DOWN ahead of the STEP, so that the ROOT stays DOWN.
        dueVariable("15 ROOT", y, 0, 2, 1);
        dueNode("15 NODE 2", y, 2, 1, 0, 2, 5);
        StableNet z = new StableNet();
        z.open(3);
        z.link(0, 2, true);
        z.link(2, 1, true);
        z.build();
        z.run(0, 2);
        for (int i = 0; i < 3; i++) {
            z.fault(i, 2, 1);
        }
        z.step(-1);
        dueVariable("15 NODE 1 gets UP", z, 1, 2, 2);
        dueVariable("15 its PARENT sees that later", z, 2, 2, 1);
    }

    private static void saneRule() {
        StableNet x = builtLine(3);
        x.fault(1, 0, -7);
        x.fault(1, 1, 1);
        x.fault(1, 2, 3);
        x.fault(1, 3, HIGH);
        x.fault(1, 5, 7);
        x.fault(1, 6, 6);
        due("rule 0", x.step(2), 1);
        dueNode("rule 0", x, 1, 3, NONE, 0, HIGH, 0, 0, 6);
        due("rule 0 counted", x.count(5), 1);
        StableNet y = builtLine(3);
        y.fault(1, 0, 2);
        y.fault(1, 1, 0);
        y.fault(1, 2, 9);
        y.step(2);
        dueNode("rule 0 leaves what is SANE", y, 1, 2, 0, 0);
    }

    private static void treeRule() {
        StableNet x = new StableNet();
        x.open(4);
        x.link(3, 1, true);
        x.link(3, 2, true);
        x.link(0, 1, true);
        x.link(0, 2, true);
        x.build();
        x.fault(1, 0, 3);
        x.fault(2, 0, 3);
        x.step(8);
        dueNode("rule 1, the least of two", x, 3, 4, 1);
        x.fault(1, 0, 4);
        x.step(8);
        dueNode("rule 1, the nearer one", x, 3, 4, 2);
        x.fault(2, 0, 5);
        x.step(8);
        dueNode("rule 1, n at most", x, 3, 4, 1);
        x.fault(1, 0, -1);
        x.fault(2, 0, 2);
        x.step(8);
        dueNode("rule 1, not SANE counts as n", x, 3, 3, 2);
        x.fault(0, 0, 4);
        x.fault(0, 1, 1);
        x.step(1);
        dueNode("rule 1, ROOT", x, 0, 0, NONE);
        due("rule 1 counted", x.count(6), 5);
    }

    /** Sets the PHASES of a line of three NODES whose tree is right, and lets NODE i act. */
    private static void dueWave(int root, int mid, int end, int i, int want) {
        StableNet x = builtLine(3);
        x.run(0, 2);
        x.fault(0, 2, root);
        x.fault(1, 2, mid);
        x.fault(2, 2, end);
        int now = i == 0 ? root : i == 1 ? mid : end;
        int before = x.count(7);
        x.step(1 << i);
        String of = "rule 2, " + root + mid + end + " of " + i;
        dueVariable(of, x, i, 2, want);
        due(of + " counted", x.count(7) - before, want == now ? 0 : 1);
    }

    private static void waveRule() {
        dueWave(0, 0, 0, 0, 1);
        dueWave(0, 1, 0, 0, 0);
        dueWave(0, 2, 0, 0, 0);
        dueWave(1, 2, 0, 0, 0);
        dueWave(1, 1, 2, 0, 1);
        dueWave(1, 0, 0, 0, 1);
        dueWave(2, 2, 2, 0, 0);
        dueWave(2, 0, 1, 0, 0);
        dueWave(1, 0, 0, 1, 1);
        dueWave(1, 0, 2, 1, 0);
        dueWave(0, 0, 0, 1, 0);
        dueWave(2, 0, 0, 1, 0);
        dueWave(1, 1, 2, 1, 2);
        dueWave(1, 1, 1, 1, 1);
        dueWave(0, 1, 2, 1, 0);
        dueWave(2, 1, 2, 1, 0);
        dueWave(0, 2, 2, 1, 0);
        dueWave(1, 2, 0, 1, 2);
        dueWave(2, 2, 0, 1, 2);
        dueWave(1, 0, 0, 2, 0);
        dueWave(1, 1, 0, 2, 1);
        dueWave(1, 1, 1, 2, 2);
        sumOfAChildThatIsTheRoot();
    }

    private static void sumOfAChildThatIsTheRoot() {
        StableNet x = builtLine(3);
        int[][] faults = {
            {0, 0, 3}, {0, 1, 1}, {0, 2, 0}, {0, 3, 100}, {2, 0, 0}, {2, 2, 1}, {2, 3, 7000},
            {1, 0, 1}, {1, 1, 2}, {1, 2, 1}
        };
        for (int[] f : faults) {
            x.fault(f[0], f[1], f[2]);
        }
        x.value(1, 11);
        x.step(2);
        dueVariable("rule 2, a CHILD is not UP", x, 1, 2, 1);
        x.fault(0, 2, 2);
        x.step(2);
        dueVariable("rule 2, it is UP", x, 1, 2, 2);
        dueVariable("rule 2, its SUM", x, 1, 3, 111);
    }

    private static void ringRule() {
        StableNet x = builtLine(2);
        x.step(-1);
        x.fault(0, 5, 4);
        x.fault(1, 5, 4);
        x.step(1);
        dueVariable("rule 3, 0 behind K - 1", x, 0, 5, 0);
        StableNet y = star(4);
        y.fault(1, 5, 2);
        y.fault(2, 5, 3);
        y.fault(3, 5, 5);
        // (0,1) is BOTTOM and has 5 BEFORE it; (0,2) has 2 and (0,3) has 3 BEFORE them.
        y.step(1);
        due("rule 3, no other", y.entries(0), 1);
        dueNode("rule 3, the first alone", y, 0, 0, NONE, 1, 0, 0, 0, 2, 0);
        y.step(1);
        dueVariable("rule 3, the next", y, 0, 7, 3);
        y.fault(0, 5, 5);
        y.step(1);
        dueVariable("rule 3, BOTTOM", y, 0, 5, 6);
        y.step(8);
        dueVariable("rule 3, another one", y, 3, 5, 3);
        due("rule 3 counted", y.count(8), 4);
    }

    // ---- 16
    private static void run() {
        StableNet x = line(3);
        due("16 STATE", x.run(0, 1), STATE);
        due("16 OUTSIDE ahead of STATE", x.run(5, 1), OUTSIDE);
        x.build();
        for (int n : new int[] {LOW, -1, 301, HIGH}) {
            due("16 run(0, " + n + ")", x.run(0, n), OUTSIDE);
        }
        for (int way : new int[] {LOW, -1, 5, HIGH}) {
            due("16 run(" + way + ", 1)", x.run(way, 1), OUTSIDE);
        }
        due("16 no STEP", x.run(0, 0), 0);
        due("16 all", x.run(0, 1), 3);
        due("16 300", x.run(1, 300), 300);
        due("16 STEPS", x.count(2), 301);
        StableNet y = builtLine(3);
        due("16 the greatest", y.run(2, 1), 1);
        dueNode("16 the greatest", y, 2, 1, 1);
        due("16 the greatest that is ENABLED", y.run(2, 1), 1);
        dueNode("16 NODE 1", y, 1, 1, 0);
        due("16 the least", y.run(1, 1), 1);
        dueVariable("16 ROOT", y, 0, 2, 1);
        StableNet z = builtLine(2);
        z.step(2);
        due("16 NODE 1 rests", z.enabled(1), NONE);
        due("16 the ROOT is the greatest", z.run(2, 1), 1);
        dueVariable("16 ROOT", z, 0, 2, 1);
        StableNet w = builtLine(12);
        due("16 the greatest of twelve", w.run(2, 1), 1);
        dueNode("16 the greatest of twelve", w, 11, 1, 10);
    }

    private static void runInTurn() {
        StableNet x = builtLine(3);
        due("16 in turn", x.run(3, 2), 2);
        dueNode("16 NODE 1 had its turn", x, 1, 1, 0);
        dueNode("16 NODE 2 not yet", x, 2, 0, NONE);
        x.step(4);
        x.step(1);
        // NODE 2 has turned to NODE 1 by now and has DIST 2.
        dueNode("16 NODE 2", x, 2, 2, 1);
        x.fault(2, 3, 5);
        due("16 the turn of NODE 2 goes by", x.enabled(2), NONE);
        due("16 none ACTED", x.run(3, 1), 0);
        due("16 behind it comes the ROOT", x.enabled(0), NONE);
        due("16 none ACTED", x.run(3, 1), 0);
        due("16 NODE 1", x.run(3, 1), 1);
        due("16 it went on", x.entries(1), 1);
    }

    private static void runByDice() {
        StableNet x = builtLine(6);
        // The DICE become 12345, of which bits 8 and beyond are 48: NODES 4 and 5.
        due("16 by DICE", x.run(4, 1), 2);
        dueNode("16 NODE 4", x, 4, 1, 3);
        dueNode("16 NODE 5", x, 5, 1, 4);
        dueNode("16 NODE 3", x, 3, 0, NONE);
        due("16 DICE", x.dice(-1), 12345);
        x.run(4, 1);
        due("16 DICE wrap", x.dice(0), -1103502900);
        x.run(4, 2);
        due("16 twice", x.dice(0), 1103515245 * 12345 + 12345);
    }

    // ---- 17
    private static void dice() {
        StableNet x = new StableNet();
        due("17 at first", x.dice(LOW), 0);
        due("17 then", x.dice(HIGH), LOW);
        due("17 then", x.dice(0), HIGH);
        StableNet y = builtLine(3);
        y.dice(9);
        y.run(0, 5);
        y.run(3, 5);
        due("17 other ways leave them", y.dice(0), 9);
    }

    // ---- 18
    private static void settle() {
        StableNet x = line(4);
        due("18 STATE", x.settle(0, 1), STATE);
        due("18 OUTSIDE ahead of STATE", x.settle(0, 2001), OUTSIDE);
        x.build();
        for (int n : new int[] {LOW, -1, 2001, HIGH}) {
            due("18 settle(0, " + n + ")", x.settle(0, n), OUTSIDE);
        }
        due("18 OUTSIDE way", x.settle(-1, 1), OUTSIDE);
        due("18 OUTSIDE way", x.settle(5, 1), OUTSIDE);
        due("18 none", x.settle(0, 0), -1);
        due("18 too few", x.settle(0, 2), -3);
        due("18 one more", x.settle(0, 2000), 1);
        due("18 no STEP at rest", x.settle(0, 2000), 0);
        due("18 nor with 0", x.settle(0, 0), 0);
        due("18 STEPS", x.count(2), 3);
        StableNet y = builtLine(3);
        due("18 the least alone", y.settle(1, 2000), -2001);
        due("18 in turn", y.settle(3, 3), 3);
        StableNet z = builtLine(2);
        z.step(3);
        z.step(1);
        z.fault(1, 0, 2);
        // The first turn is that of the ROOT, which does not act: it is a STEP all the same.
        due("18 a STEP in which none ACTS", z.settle(3, 9), 2);
    }

    // ---- 19
    private static void rest() {
        StableNet x = line(2);
        due("19 building", x.rest(), 0);
        x.build();
        due("19 at first", x.rest(), 0);
        x.step(-1);
        due("19 at rest", x.rest(), 1);
        int[][] broken = {{0, 0, 1}, {0, 1, 1}, {0, 2, 3}, {0, 5, 5}, {1, 0, 0}, {1, 0, 2}, {1, 1, -1}, {1, 2, -1}};
        for (int[] f : broken) {
            x.keep();
            x.fault(f[0], f[1], f[2]);
            due("19 fault(" + f[0] + ", " + f[1] + ", " + f[2] + ")", x.rest(), 0);
            x.back();
        }
        int[][] sound = {{0, 2, 2}, {1, 2, 1}, {0, 3, 9}, {0, 5, 4}};
        for (int[] f : sound) {
            x.keep();
            x.fault(f[0], f[1], f[2]);
            due("19 fault(" + f[0] + ", " + f[1] + ", " + f[2] + ")", x.rest(), 1);
            x.back();
        }
        StableNet y = builtLine(3);
        y.run(0, 2);
        due("19 one RIGHT", y.rest(), 1);
        y.fault(1, 6, 3);
        due("19 more RIGHTS than one", y.rest(), 0);
        restHasTheLeastParent();
    }

    private static void restHasTheLeastParent() {
        StableNet x = new StableNet();
        x.open(4);
        x.link(0, 1, true);
        x.link(0, 2, true);
        x.link(1, 3, true);
        x.link(2, 3, true);
        x.link(1, 2, true);
        x.build();
        x.run(0, 3);
        due("19 square", x.rest(), 1);
        dueNode("19 NODE 3", x, 3, 2, 1);
        x.fault(3, 1, 2);
        due("19 not the least", x.rest(), 0);
        StableNet y = new StableNet();
        y.open(4);
        y.link(0, 3, true);
        y.link(3, 1, true);
        y.link(1, 2, true);
        y.build();
        // The tree is right behind 3 STEPS, but 3 POSITIONS have the RIGHT then.
        due("19 a line 0, 3, 1, 2", y.settle(0, 50), 4);
        dueNode("19 NODE 1", y, 1, 2, 3);
        due("19 it is at rest", y.rest(), 1);
    }

    // ---- 20
    private static void distance() {
        StableNet x = line(12);
        due("20 the end", x.distance(11), 11);
        due("20 the ROOT", x.distance(0), 0);
        x.link(0, 6, true);
        due("20 a shorter way", x.distance(11), 6);
        due("20 and back", x.distance(4), 3);
        x.link(7, 8, false);
        due("20 cut off", x.distance(8), NONE);
        due("20 not cut off", x.distance(7), 2);
        due("20 UNKNOWN", x.distance(12), UNKNOWN);
        due("20 UNKNOWN", x.distance(-1), UNKNOWN);
        x.link(7, 8, true);
        x.build();
        x.fault(11, 0, 3);
        due("20 built", x.distance(11), 6);
    }

    // ---- 21
    private static void wave() {
        StableNet x = star(3);
        x.value(0, HIGH);
        x.value(1, 1);
        x.value(2, 10);
        due("21 before any", x.wave(), 0);
        due("21 RESULT", x.seen(), 0);
        x.run(0, 4);
        due("21 one", x.wave(), 1);
        due("21 it wraps", x.seen(), HIGH + 11);
        x.value(1, 2);
        x.told(1, 4);
        due("21 the same", x.wave(), 1);
        due("21 of the latest WAVE", x.seen(), HIGH + 11);
        x.run(0, 5);
        due("21 two", x.wave(), 2);
        due("21 its RESULT", x.seen(), HIGH + 12);
    }

    // ---- 22
    private static void entries() {
        StableNet x = builtLine(2);
        due("22 UNKNOWN", x.entries(2), UNKNOWN);
        due("22 UNKNOWN", x.entries(-1), UNKNOWN);
        x.step(-1);
        due("22 TREE and WAVE are none", x.entries(0) + x.entries(1), 0);
        x.step(1);
        due("22 ROOT", x.entries(0), 1);
        due("22 other", x.entries(1), 0);
        x.step(2);
        x.step(1);
        due("22 ROOT again", x.entries(0), 2);
        due("22 other", x.entries(1), 1);
    }

    // ---- 23
    private static void count() {
        StableNet x = line(3);
        due("23 LINKS, building", x.count(1), 2);
        x.build();
        x.step(-1);
        x.step(0);
        due("23 NODES", x.count(0), 3);
        due("23 LINKS", x.count(1), 2);
        due("23 STEPS", x.count(2), 1);
        due("23 ROUNDS", x.count(3), 1);
        due("23 built", x.count(4), 1);
        due("23 SANE", x.count(5), 0);
        due("23 TREE", x.count(6), 2);
        due("23 WAVE", x.count(7), 1);
        due("23 RING", x.count(8), 0);
        x.step(3);
        // NODE 1 does WAVE, the ROOT does RING.
        due("23 WAVE", x.count(7), 2);
        due("23 RING", x.count(8), 1);
        for (int what : new int[] {LOW, -1, 9, HIGH}) {
            due("23 count(" + what + ")", x.count(what), OUTSIDE);
        }
        StableNet y = builtLine(2);
        y.step(3);
        y.step(1);
        y.step(2);
        due("23 both at once, WAVE", y.count(7), 2);
        due("23 both at once, RING", y.count(8), 2);
        due("23 both at once, STEPS", y.count(2), 3);
    }

    private static void rounds() {
        StableNet x = builtLine(2);
        x.step(1);
        x.step(1);
        due("23 NODE 1 is awaited", x.count(3), 0);
        x.step(2);
        due("23 first ROUND", x.count(3), 1);
        x.step(0);
        due("23 a STEP in which none ACTS", x.count(3), 1);
        StableNet z = builtLine(2);
        z.step(3);
        z.step(1);
        due("23 NODE 1 is awaited in the next ROUND, too", z.count(3), 1);
        z.step(2);
        due("23 second ROUND", z.count(3), 2);
        StableNet y = builtLine(2);
        y.step(3);
        y.fault(0, 2, 1);
        y.fault(1, 2, 2);
        due("23 NODE 1 rests", y.enabled(1), NONE);
        y.fault(0, 0, 1);
        due("23 NODE 1 follows", y.enabled(1), 1);
        y.step(1);
        due("23 NODE 1 is not ENABLED any more", y.enabled(1), NONE);
        due("23 so the ROUND ends", y.count(3), 2);
    }

    private static void roundsAnew() {
        StableNet x = builtLine(2);
        x.step(1);
        x.value(0, 5);
        x.step(2);
        due("23 the ROOT is awaited again behind value()", x.count(3), 0);
        x.step(1);
        due("23 it has ACTED", x.count(3), 1);
        StableNet y = builtLine(2);
        y.step(1);
        y.fault(0, 3, 0);
        y.step(2);
        due("23 the ROOT is awaited again behind fault()", y.count(3), 0);
        y.step(1);
        due("23 it has ACTED", y.count(3), 1);
        StableNet z = builtLine(2);
        z.step(1);
        z.fault(0, 4, 0);
        z.value(2, 0);
        z.told(0, 0);
        z.dice(3);
        z.step(2);
        due("23 refusals and what is asked begin none", z.count(3), 1);
    }

    // ---- 24, 25
    private static void keepAndBack() {
        StableNet x = builtLine(3);
        due("25 nothing kept", x.back(), STATE);
        x.dice(4);
        x.run(3, 4);
        x.value(2, 8);
        x.told(2, 4);
        long kept = x.digest();
        int rounds = x.count(3);
        due("24 keep", x.keep(), 1);
        x.run(4, 50);
        x.fault(1, 6, 99);
        x.told(1, 6);
        x.open(7);
        due("25 back", x.back(), 1);
        due("25 digest", x.digest(), kept);
        due("25 SEEN", x.seen(), 8);
        due("25 STEPS", x.count(2), 4);
        due("25 ROUNDS", x.count(3), rounds);
        due("25 DICE", x.dice(4), 4);
        due("25 built", x.count(4), 1);
        due("25 the turn is that of NODE 1", x.run(3, 1), 1);
        due("25 NODE 1 ACTED", x.entries(1), 1);
        due("25 again", x.back(), 1);
        due("25 what is kept stays", x.digest(), kept);
        x.open(2);
        x.keep();
        x.open(5);
        x.back();
        due("24 in place of what was before", x.count(0), 2);
        due("25 building", x.count(4), 0);
        backBringsTheRound();
    }

    private static void backBringsTheRound() {
        StableNet x = builtLine(2);
        x.step(1);
        x.keep();
        x.run(0, 3);
        x.back();
        due("25 no ROUND yet", x.count(3), 0);
        x.step(2);
        due("25 NODE 1 alone was awaited", x.count(3), 1);
        StableNet y = star(3);
        y.value(1, 6);
        y.run(0, 4);
        y.keep();
        int trees = y.count(6);
        int ringed = y.count(8);
        y.value(1, 60);
        y.fault(2, 0, 2);
        y.run(0, 40);
        y.open(5);
        y.back();
        due("25 WAVES", y.wave(), 1);
        due("25 RESULT", y.seen(), 6);
        due("25 TREE", y.count(6), trees);
        due("25 RING", y.count(8), ringed);
        due("25 CHILD", y.child(0, 1), 2);
        due("25 no CHILD", y.child(1, 0), NONE);
        due("25 TRUE DISTANCE", y.distance(2), 1);
        StableNet z = builtLine(2);
        z.fault(1, 0, 9);
        z.keep();
        z.step(-1);
        z.back();
        due("25 not SANE", z.enabled(1), 0);
        dueVariable("25 not SANE", z, 1, 0, 9);
    }

    // ---- 26
    private static void digest() {
        StableNet x = line(3);
        x.value(1, -5);
        x.dice(-9);
        due("26 building", x.digest(), hash(3, 0,
                0, -1, 0, 0, 0, 1, 0, 0,
                0, -1, 0, 0, -5, 0, 0, 2, 0, 0,
                0, -1, 0, 0, 0, 1, 0, 0, -9));
        x.build();
        x.fault(1, 0, LOW);
        x.fault(1, 1, 44);
        x.fault(1, 2, 45);
        x.fault(1, 3, 46);
        x.fault(1, 5, 47);
        x.fault(1, 6, HIGH);
        due("26 built", x.digest(), hash(3, 1,
                0, -1, 0, 0, 0, 1, 0, 0,
                LOW, 44, 45, 46, -5, 0, 47, 2, HIGH, 0,
                0, -1, 0, 0, 0, 1, 0, 0, -9));
        StableNet y = builtLine(2);
        y.step(3);
        y.step(1);
        due("26 ENTRIES", y.digest(), hash(2, 1, 0, -1, 1, 0, 0, 1, 1, 1, 1, 0, 0, 0, 0, 0, 0, 0, 0));
    }

    private static void refusalsChangeNothing() {
        StableNet x = builtLine(3);
        x.run(0, 7);
        x.told(1, 1);
        long before = x.digest();
        int seen = x.seen();
        x.open(13);
        x.link(0, 2, true);
        x.build();
        x.value(3, 1);
        x.fault(0, 4, 1);
        x.fault(0, 6, 1);
        x.told(0, 6);
        x.run(4, 301);
        x.run(5, 3);
        x.settle(4, 2001);
        x.back();
        due("refusals, digest", x.digest(), before);
        due("refusals, SEEN", x.seen(), seen);
        due("refusals, STEPS", x.count(2), 7);
        due("refusals, LINKS", x.count(1), 2);
    }
}
