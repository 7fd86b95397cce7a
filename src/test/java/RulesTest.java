/** Section 2: the RULES 0 to 3, sentence by sentence. */
public final class RulesTest extends Nets {

    public static void main(String[] args) {
        Sentences s = new Sentences("RulesTest");
        s.in("2 RULES");
        s.say("of a NODE, of which the first that is ENABLED is done when it ACTS", RulesTest::firstIsDone);
        s.say("(WAVE and RING both, at once, if both are and none ahead is):", RulesTest::waveAndRing);
        s.say("0 SANE: a VARIABLE of it is not SANE: each such becomes what it counts as.", RulesTest::sane);
        s.say("1 TREE: its DIST and PARENT are to be: of the ROOT 0 and NONE;", RulesTest::treeOfTheRoot);
        s.say("of another one: the least DIST of its NEIGHBOURS and 1, n at most,", RulesTest::leastDist);
        s.say("and the least NEIGHBOUR that has this least DIST.", RulesTest::leastNeighbour);
        s.say("ENABLED, if either is not so; then both become so.", RulesTest::eitherIsNotSo);
        s.say("2 WAVE, the ROOT: CLEAN, and all CHILDREN are CLEAN: DOWN.", RulesTest::rootGetsDown);
        s.say("DOWN, and all CHILDREN are UP: CLEAN; its SUM becomes its VALUE and the SUMS of its CHILDREN "
                + "(wrapping); a WAVE is done, that SUM being its RESULT.", RulesTest::rootEndsAWave);
        s.say("UP: CLEAN.", RulesTest::rootIsUp);
        s.say("Another one: CLEAN, its PARENT is DOWN, all CHILDREN are CLEAN: DOWN.", RulesTest::getsDown);
        s.say("DOWN, its PARENT is DOWN, all CHILDREN are UP: UP; its SUM becomes its VALUE and the SUMS of "
                + "its CHILDREN.", RulesTest::getsUp);
        s.say("DOWN, its PARENT is not DOWN: CLEAN.", RulesTest::downUnderNoDown);
        s.say("UP, its PARENT is CLEAN: CLEAN.", RulesTest::upUnderClean);
        s.say("(Without a PARENT: that counts as CLEAN.)", RulesTest::withoutParent);
        s.say("3 RING: of each TIE j of a NODE i the POSITION (i, j): the one BEFORE it is (p, i), p being the "
                + "TIE of i ahead of j,", RulesTest::tieAhead);
        s.say("or the last one, if j is the first.", RulesTest::lastTie);
        s.say("(i, j) HAS THE RIGHT, if its X differs from that of the one BEFORE it;", RulesTest::differs);
        s.say("but BOTTOM, the ROOT's POSITION of its first TIE, if they are the same.", RulesTest::bottom);
        s.say("ENABLED, if one has;", RulesTest::enabledIfOneHas);
        s.say("then the X of the first of them (by j) becomes that of the one BEFORE;", RulesTest::firstByJ);
        s.say("at BOTTOM: one more, 0 behind K - 1.", RulesTest::oneMore);
        s.say("It is an ENTRY of the NODE.", RulesTest::entry);
        s.end();
    }

    private static void firstIsDone() {
        StableNet x = quietLine(3);
        x.fault(1, DIST, 9);
        x.fault(1, PHASE, UP);
        x.fault(1, X, 2);
        due("SANE is the first", x.enabled(1), 0);
        x.step(2);
        dueNode("SANE alone", x, 1, 3, 0, UP, 0, 0, 2, 0);
        dueDone("SANE alone", x, 1, 0, 0, 0);
        due("TREE is the next", x.enabled(1), 1);
        x.step(2);
        dueNode("TREE alone", x, 1, 1, 0, UP, 0, 0, 2, 0);
        dueDone("TREE alone", x, 1, 1, 0, 0);
        due("then WAVE", x.enabled(1), 2);
        x.fault(1, PHASE, CLEAN);
        due("then RING", x.enabled(1), 3);
    }

    private static void waveAndRing() {
        StableNet x = quietLine(3);
        x.fault(1, PHASE, UP);
        x.fault(1, X, 2);
        due("one NODE ACTED", x.step(2), 1);
        dueNode("both", x, 1, 1, 0, CLEAN, 0, 0, 0, 0);
        dueDone("both", x, 0, 0, 1, 1);
        x.fault(1, X, 2);
        x.step(2);
        dueVariable("RING alone", x, 1, X, 0);
        dueDone("RING alone", x, 0, 0, 1, 2);
        x.fault(1, PHASE, UP);
        x.step(2);
        dueVariable("WAVE alone", x, 1, PHASE, CLEAN);
        dueDone("WAVE alone", x, 0, 0, 2, 2);
    }

    // ---- 0

    private static void sane() {
        StableNet x = builtLine(3);
        int[] broken = {-7, 1, 3, HIGH, 0, 7, -1};
        for (int what : new int[] {DIST, PARENT, PHASE, SUM, X, X + 1}) {
            x.fault(1, what, broken[what]);
        }
        due("it ACTS once", x.step(2), 1);
        dueNode("each such", x, 1, 3, NONE, CLEAN, HIGH, 0, 0, 0);
        dueDone("each such", x, 1, 0, 0, 0);
        StableNet y = builtLine(3);
        int[] sound = {2, 0, UP, LOW, 0, 6, 5};
        for (int what : new int[] {DIST, PARENT, PHASE, SUM, X, X + 1}) {
            y.fault(1, what, sound[what]);
        }
        y.fault(1, X, 7);
        y.step(2);
        dueNode("no other", y, 1, 2, 0, UP, LOW, 0, 0, 5);
        for (int what : new int[] {DIST, PARENT, PHASE, X}) {
            StableNet z = builtLine(2);
            z.fault(0, what, LOW);
            due("the ROOT, " + what, z.enabled(0), 0);
            z.step(1);
            dueNode("the ROOT, " + what, z, 0, what == DIST ? 2 : 0, NONE, CLEAN, 0, 0, 0);
        }
    }

    // ---- 1

    private static void treeOfTheRoot() {
        int[][] faults = {{DIST, 1}, {DIST, 3}, {PARENT, 1}};
        for (int[] f : faults) {
            StableNet x = quietLine(3);
            x.fault(0, f[0], f[1]);
            due("the ROOT, " + f[0] + " is " + f[1], x.enabled(0), 1);
            x.step(1);
            dueNode("the ROOT", x, 0, 0, NONE);
        }
        StableNet y = quietLine(3);
        y.fault(1, DIST, 0);
        y.fault(2, DIST, 0);
        due("its NEIGHBOURS do not matter", y.enabled(0), 2);
    }

    private static void leastDist() {
        // NODE 1 of a line of three, with DISTS of NODES 0 and 2, and what its own one becomes.
        int[][] rows = {{0, 0, 1}, {0, 3, 1}, {1, 0, 1}, {1, 2, 2}, {2, 1, 2}, {2, 2, 3}, {2, 3, 3}, {3, 3, 3}};
        for (int[] r : rows) {
            StableNet x = builtLine(3);
            x.fault(0, DIST, r[0]);
            x.fault(2, DIST, r[1]);
            x.step(2);
            dueVariable("NEIGHBOURS " + r[0] + ", " + r[1], x, 1, DIST, r[2]);
        }
        StableNet y = full(12);
        y.build();
        for (int i = 0; i < 12; i++) {
            y.fault(i, DIST, 12);
        }
        y.step(1 << 11);
        dueNode("n at most", y, 11, 12, 0);
        y.fault(10, DIST, 11);
        y.step(1 << 11);
        dueNode("n - 1 and 1", y, 11, 12, 10);
        y.fault(5, DIST, 10);
        y.step(1 << 11);
        dueNode("the least of eleven", y, 11, 11, 5);
    }

    private static void leastNeighbour() {
        StableNet x = built(5, 0, 1, 0, 2, 0, 3, 4, 3, 4, 2, 4, 1);
        // The DISTS of NODES 1, 2, 3, and the PARENT of NODE 4.
        int[][] rows = {{2, 2, 2, 1}, {3, 2, 2, 2}, {3, 3, 2, 3}, {5, 5, 5, 1}, {1, 2, 1, 1}, {4, 1, 4, 2}};
        for (int[] r : rows) {
            for (int i = 1; i < 4; i++) {
                x.fault(i, DIST, r[i - 1]);
            }
            x.fault(4, PARENT, NONE);
            x.step(16);
            dueVariable("DISTS " + r[0] + r[1] + r[2], x, 4, PARENT, r[3]);
        }
    }

    private static void eitherIsNotSo() {
        StableNet x = quietLine(3);
        due("both are so", x.enabled(1), NONE);
        for (int dist : new int[] {0, 2, 3}) {
            x.fault(1, DIST, dist);
            due("DIST " + dist, x.enabled(1), 1);
            x.step(2);
            dueNode("DIST " + dist, x, 1, 1, 0);
        }
        for (int parent : new int[] {NONE, 2}) {
            x.fault(1, PARENT, parent);
            due("PARENT " + parent, x.enabled(1), 1);
            x.step(2);
            dueNode("PARENT " + parent, x, 1, 1, 0);
        }
        x.fault(1, DIST, 3);
        x.fault(1, PARENT, 2);
        x.step(2);
        dueNode("both become so", x, 1, 1, 0);
        dueDone("once each time", x, 0, 6, 0, 0);
    }

    // ---- 2

    /** Of a line of three with these PHASES, lets NODE i act and asks for its PHASE. */
    private static void dueWave(int root, int mid, int end, int i, int want) {
        StableNet x = quietLine(3);
        phases(x, root, mid, end);
        for (int j = 0; j < 3; j++) {
            x.fault(j, SUM, 1000);
            x.value(j, 7);
        }
        int is = new int[] {root, mid, end}[i];
        boolean sums = is == DOWN && (want == UP || i == 0 && want == CLEAN);
        x.step(1 << i);
        String of = "PHASES " + root + mid + end + ", NODE " + i;
        dueVariable(of, x, i, PHASE, want);
        dueVariable(of, x, i, SUM, sums ? (i == 2 ? 7 : 1007) : 1000);
        due(of + ", WAVE", x.count(7), want == is ? 0 : 1);
        due(of + ", WAVES", x.wave(), sums && i == 0 ? 1 : 0);
        due(of + ", RESULT", x.seen(), sums && i == 0 ? 1007 : 0);
    }

    private static void rootGetsDown() {
        for (int end = CLEAN; end <= UP; end++) {
            dueWave(CLEAN, CLEAN, end, 0, DOWN);
            dueWave(CLEAN, DOWN, end, 0, CLEAN);
            dueWave(CLEAN, UP, end, 0, CLEAN);
        }
        StableNet x = builtLine(2);
        x.step(1);
        dueVariable("no CHILDREN", x, 0, PHASE, DOWN);
        for (int i = 1; i < 4; i++) {
            StableNet y = star(4);
            y.fault(i, PHASE, UP);
            y.step(1);
            dueVariable("CHILD " + i + " is not CLEAN", y, 0, PHASE, CLEAN);
        }
    }

    private static void rootEndsAWave() {
        for (int end = CLEAN; end <= UP; end++) {
            dueWave(DOWN, UP, end, 0, CLEAN);
            dueWave(DOWN, DOWN, end, 0, DOWN);
            dueWave(DOWN, CLEAN, end, 0, DOWN);
        }
        for (int i = 1; i < 4; i++) {
            StableNet y = star(4);
            phases(y, DOWN, UP, UP, UP);
            y.fault(i, PHASE, DOWN);
            y.step(1);
            dueVariable("CHILD " + i + " is not UP", y, 0, PHASE, DOWN);
        }
        rootSums();
    }

    private static void rootSums() {
        StableNet x = star(4);
        phases(x, DOWN, UP, UP, UP);
        x.value(0, HIGH);
        x.value(1, 50);
        x.fault(1, SUM, 1);
        x.fault(2, SUM, HIGH);
        x.fault(3, SUM, 4);
        x.step(1);
        // 2^31 - 1 and 1 and 2^31 - 1 and 4 are 2^32 and 3.
        dueVariable("it wraps", x, 0, SUM, 3);
        due("a WAVE is done", x.wave(), 1);
        due("its RESULT", x.seen(), 3);
        StableNet y = builtLine(2);
        y.value(0, LOW);
        y.fault(0, PHASE, DOWN);
        y.fault(1, SUM, 9);
        y.step(1);
        dueVariable("no CHILDREN", y, 0, SUM, LOW);
        due("a WAVE of the ROOT alone", y.wave(), 1);
        due("its RESULT", y.seen(), LOW);
    }

    private static void rootIsUp() {
        for (int mid = CLEAN; mid <= UP; mid++) {
            for (int end = CLEAN; end <= UP; end++) {
                dueWave(UP, mid, end, 0, CLEAN);
            }
        }
    }

    private static void getsDown() {
        dueWave(DOWN, CLEAN, CLEAN, 1, DOWN);
        dueWave(DOWN, CLEAN, DOWN, 1, CLEAN);
        dueWave(DOWN, CLEAN, UP, 1, CLEAN);
        dueWave(CLEAN, CLEAN, CLEAN, 1, CLEAN);
        dueWave(UP, CLEAN, CLEAN, 1, CLEAN);
        for (int root = CLEAN; root <= UP; root++) {
            dueWave(root, DOWN, CLEAN, 2, DOWN);
            dueWave(root, CLEAN, CLEAN, 2, CLEAN);
            dueWave(root, UP, CLEAN, 2, CLEAN);
        }
        StableNet x = underNode2();
        phases(x, UP, CLEAN, DOWN);
        x.step(2);
        dueVariable("the ROOT, a CHILD, is not CLEAN", x, 1, PHASE, CLEAN);
        phases(x, CLEAN, CLEAN, DOWN);
        x.step(2);
        dueVariable("the ROOT, a CHILD, is CLEAN", x, 1, PHASE, DOWN);
    }

    /** A line of three whose NODE 1 has the PARENT 2, and the ROOT as a CHILD. */
    private static StableNet underNode2() {
        StableNet x = builtLine(3);
        x.fault(0, DIST, 3);
        x.fault(0, PARENT, 1);
        x.fault(1, DIST, 1);
        x.fault(1, PARENT, 2);
        return x;
    }

    private static void getsUp() {
        dueWave(DOWN, DOWN, UP, 1, UP);
        dueWave(DOWN, DOWN, DOWN, 1, DOWN);
        dueWave(DOWN, DOWN, CLEAN, 1, DOWN);
        for (int root = CLEAN; root <= UP; root++) {
            dueWave(root, DOWN, DOWN, 2, UP);
        }
        StableNet x = quietLine(3);
        phases(x, DOWN, DOWN, UP);
        x.value(1, LOW);
        x.fault(2, SUM, -1);
        x.fault(0, SUM, 30);
        x.step(2);
        dueVariable("it wraps, too", x, 1, SUM, HIGH);
        due("no WAVE is done by it", x.wave(), 0);
        StableNet y = underNode2();
        y.value(1, 11);
        y.fault(0, SUM, 100);
        y.fault(2, SUM, 7000);
        phases(y, CLEAN, DOWN, DOWN);
        y.step(2);
        dueVariable("the ROOT, a CHILD, is not UP", y, 1, PHASE, DOWN);
        phases(y, UP, DOWN, DOWN);
        y.step(2);
        dueVariable("the ROOT, a CHILD, is UP", y, 1, PHASE, UP);
        dueVariable("with the SUM of the ROOT", y, 1, SUM, 111);
    }

    private static void downUnderNoDown() {
        for (int end = CLEAN; end <= UP; end++) {
            dueWave(CLEAN, DOWN, end, 1, CLEAN);
            dueWave(UP, DOWN, end, 1, CLEAN);
            dueWave(end, CLEAN, DOWN, 2, CLEAN);
            dueWave(end, UP, DOWN, 2, CLEAN);
        }
    }

    private static void upUnderClean() {
        for (int end = CLEAN; end <= UP; end++) {
            dueWave(CLEAN, UP, end, 1, CLEAN);
            dueWave(DOWN, UP, end, 1, UP);
            dueWave(UP, UP, end, 1, UP);
            dueWave(end, CLEAN, UP, 2, CLEAN);
            dueWave(end, DOWN, UP, 2, UP);
            dueWave(end, UP, UP, 2, UP);
        }
    }

    /** Without a PARENT another NODE does TREE ahead of WAVE, so no WAVE of it can be seen. */
    private static void withoutParent() {
        for (int phase = CLEAN; phase <= UP; phase++) {
            StableNet x = quietLine(3);
            phases(x, DOWN, phase, phase);
            x.fault(1, PARENT, NONE);
            due("TREE is ahead, PHASE " + phase, x.enabled(1), 1);
            x.step(2);
            dueNode("the PHASE stays", x, 1, 1, 0, phase);
        }
        StableNet y = quietLine(2);
        due("the ROOT, which has none, gets DOWN", y.enabled(0), 2);
        y.fault(0, PHASE, DOWN);
        y.fault(0, X, 1);
        due("and stays DOWN", y.enabled(0), NONE);
    }

    // ---- 3

    private static void tieAhead() {
        StableNet x = star(4);
        x.fault(1, X, 2);
        // BEFORE (0, 2) is (1, 0), BEFORE (0, 3) is (2, 0).
        due("BOTTOM and (0, 2) of the ROOT, and (1, 0)", x.rights(), 3);
        x.fault(0, X, 2);
        x.step(1);
        dueVariable("(0, 2)", x, 0, X + 1, 2);
        x.step(4);
        dueVariable("BEFORE (2, 0) is (0, 2)", x, 2, X, 2);
        x.step(1);
        dueVariable("BEFORE (0, 3) is (2, 0)", x, 0, X + 2, 2);
        StableNet y = star(4);
        y.fault(2, PARENT, NONE);
        y.fault(1, X, 5);
        y.fault(2, X, 6);
        y.fault(0, X, 1);
        y.step(1);
        dueVariable("NODE 2 is no TIE: BEFORE (0, 3) is (1, 0)", y, 0, X + 2, 5);
    }

    private static void lastTie() {
        StableNet x = star(4);
        x.fault(3, X, 4);
        x.fault(0, X, 4);
        x.step(1);
        dueVariable("BEFORE (0, 1) is (3, 0)", x, 0, X, 5);
        StableNet y = quietLine(3);
        y.fault(2, X, 3);
        y.step(2);
        dueVariable("BEFORE (1, 0) is (2, 1)", y, 1, X, 3);
        y.fault(1, X + 1, 4);
        y.step(4);
        dueVariable("of one TIE it is the same: BEFORE (2, 1) is (1, 2)", y, 2, X, 4);
        StableNet z = star(12);
        z.fault(11, X, 24);
        z.fault(0, X, 24);
        z.step(1);
        dueVariable("of twelve NODES, BEFORE (0, 1) is (11, 0)", z, 0, X, 0);
    }

    private static void differs() {
        for (int own : new int[] {0, 1, 5, 6}) {
            for (int before : new int[] {0, 1, 5, 6}) {
                StableNet x = quietLine(3);
                x.fault(1, X + 1, own);
                x.fault(2, X, own);
                x.fault(1, X, own);
                x.fault(0, X, before);
                // (1, 2) has (0, 1) BEFORE it; where they differ, BOTTOM has no RIGHT.
                due(own + " behind " + before + ", rights()", x.rights(), 1);
                due(own + " behind " + before + ", holder(0)", x.holder(0), own == before ? 0 : 1);
            }
        }
    }

    private static void bottom() {
        StableNet x = quietLine(2);
        due("the same", x.holder(0), 0);
        x.fault(0, X, 1);
        due("not the same: NODE 1 alone", x.holder(0), 1);
        due("no more", x.holder(1), NONE);
        StableNet y = star(3);
        y.fault(2, X, 3);
        y.fault(0, X + 1, 3);
        // (0, 1) differs, but is BOTTOM; (0, 2) differs and is not.
        due("of the first TIE alone", y.rights(), 1);
        due("which is (0, 2)", y.holder(0), 0);
        y.step(1);
        dueNode("which is (0, 2)", y, 0, 0, NONE, DOWN, 0, 0, 0, 0);
        StableNet z = built(3, 0, 1, 0, 2, 1, 2);
        z.fault(1, PARENT, 2);
        z.fault(2, PARENT, 0);
        // The first TIE of the ROOT is NODE 2, its second NEIGHBOUR.
        due("the first TIE, not the first NEIGHBOUR", z.rights(), 1);
        due("which is the ROOT's", z.holder(0), 0);
        z.fault(1, PARENT, NONE);
        z.fault(0, PARENT, 1);
        due("its PARENT is a TIE, too", z.rights(), 1);
        due("of another one's first TIE it is not", quietLine(3).enabled(1), NONE);
    }

    private static void enabledIfOneHas() {
        StableNet x = quietLine(3);
        due("none has", x.enabled(1), NONE);
        x.fault(1, X, 1);
        due("the first has", x.enabled(1), 3);
        x.fault(1, X, 0);
        x.fault(1, X + 1, 1);
        due("the second has", x.enabled(1), 3);
        x.fault(1, X, 1);
        due("both have", x.enabled(1), 3);
        due("it ACTS", x.step(2), 1);
    }

    private static void firstByJ() {
        StableNet x = star(4);
        x.fault(1, X, 2);
        x.fault(2, X, 3);
        x.fault(3, X, 5);
        // (0, 1) is BOTTOM and has 5 BEFORE it; (0, 2) has 2 and (0, 3) has 3 BEFORE them.
        x.step(1);
        dueNode("the first alone", x, 0, 0, NONE, DOWN, 0, 0, 0, 2, 0);
        x.step(1);
        dueNode("then the next", x, 0, 0, NONE, DOWN, 0, 0, 0, 2, 3);
        StableNet y = quietLine(3);
        y.fault(1, X, 4);
        y.fault(1, X + 1, 5);
        y.step(2);
        dueNode("of another one", y, 1, 1, 0, CLEAN, 0, 0, 0, 5);
    }

    private static void oneMore() {
        for (int n : new int[] {2, 3, 12}) {
            for (int is : new int[] {0, 1, 2 * n - 1, 2 * n}) {
                StableNet x = quietLine(n);
                x.fault(0, X, is);
                x.fault(1, X, is);
                x.step(1);
                dueVariable("BOTTOM of " + n + " at " + is, x, 0, X, is == 2 * n ? 0 : is + 1);
            }
        }
    }

    private static void entry() {
        StableNet x = quietLine(3);
        x.step(1);
        due("at BOTTOM", x.entries(0), 1);
        x.step(2);
        due("of another one", x.entries(1), 1);
        due("not of NODE 2", x.entries(2), 0);
        x.fault(1, X, 5);
        x.fault(1, X + 1, 5);
        x.step(2);
        due("two RIGHTS, one ENTRY", x.entries(1), 2);
        x.fault(1, DIST, 9);
        x.step(2);
        x.step(2);
        due("SANE and TREE are none", x.entries(1), 2);
    }
}
