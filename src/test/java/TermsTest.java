import java.util.Random;

/** What the net is, and the terms: what is SANE, what counts in its place, CHILDREN and TIES. */
public final class TermsTest extends Nets {
    private static final int[] NO_NEIGHBOUR_OF_1 = {LOW, -2, 1, 3, 4, 5, 12, 32, HIGH};

    public static void main(String[] args) {
        Sentences s = new Sentences("TermsTest");
        s.in("What it is");
        s.say("A net that comes to rest by itself: nodes that see their neighbours alone, whatever their "
                + "variables were, make a tree of shortest ways,", TermsTest::comesToRest);
        s.say("send waves down it that bring the sum of all back,", TermsTest::wavesBringTheSum);
        s.say("and hand one right to enter round and round;", TermsTest::rightGoesRound);
        s.say("any of them may act at any time, together or not;", TermsTest::anyMayAct);
        s.say("faults overwrite what they like.", TermsTest::faultsOverwrite);
        s.in("1 NODES");
        s.say("0 to n - 1 (n is 2 to 12),", TermsTest::nodes);
        s.say("NODE 0 being the ROOT;", TermsTest::root);
        s.say("LINKS between two of them, to and fro.", TermsTest::links);
        s.say("An object is used for at most 512 calls after it has been made; what later calls answer is "
                + "free.", TermsTest::lastCall);
        s.in("Terms");
        s.say("NEIGHBOURS of a NODE are in order of their numbers.", TermsTest::neighboursInOrder);
        s.say("Each NODE has a VALUE (an int) and VARIABLES, ints: DIST, PARENT, PHASE, SUM, and of each "
                + "NEIGHBOUR an X;", TermsTest::variablesAreInts);
        s.say("K is 2 n and 1 more.", TermsTest::k);
        s.say("SANE are DIST from 0 to n,", TermsTest::saneDist);
        s.say("PARENT a NEIGHBOUR or NONE (-1),", TermsTest::saneParent);
        s.say("PHASE 0 (CLEAN), 1 (DOWN), 2 (UP),", TermsTest::sanePhase);
        s.say("X from 0 to K - 1,", TermsTest::saneX);
        s.say("any SUM.", TermsTest::saneSum);
        s.say("What is read of another NODE counts, if it is not SANE, as: DIST n,", TermsTest::countsAsDist);
        s.say("PARENT NONE,", TermsTest::countsAsParent);
        s.say("PHASE CLEAN,", TermsTest::countsAsPhase);
        s.say("X 0.", TermsTest::countsAsX);
        s.say("(A NODE reads its own as they are, once it is SANE;", TermsTest::readsItsOwn);
        s.say("in rights(), holder(), next(), rest() its own X and PARENT count so, too.)",
                TermsTest::ownCountSo);
        s.say("CHILDREN of a NODE are those NEIGHBOURS whose PARENT is it;", TermsTest::children);
        s.say("TIES are its CHILDREN and its PARENT (SANE, if there is one), each once, in order of numbers.",
                TermsTest::ties);
        s.end();
    }

    // ---- what it is

    /** A net of twelve NODES, all of whose VARIABLES are overwritten from a seed. */
    private static StableNet shaken(long seed) {
        Random random = new Random(seed);
        StableNet x = new StableNet();
        x.open(12);
        for (int i = 1; i < 12; i++) {
            x.link(i, random.nextInt(i), true);
            x.link(i, (i + 1 + random.nextInt(11)) % 12, true);
            x.value(i, i);
        }
        x.build();
        for (int i = 0; i < 12; i++) {
            for (int what = DIST; what < 17; what++) {
                x.fault(i, what, random.nextBoolean() ? random.nextInt(27) - 1 : random.nextInt());
            }
        }
        return x;
    }

    /** By ways that leave no NODE out for ever. */
    private static void settle(StableNet x, int way) {
        for (int again = 0; again < 5 && x.rest() == 0; again++) {
            x.settle(way, 2000);
        }
    }

    private static void comesToRest() {
        for (int seed = 1; seed <= 12; seed++) {
            for (int way : new int[] {0, 3, 4}) {
                StableNet x = shaken(seed);
                settle(x, way);
                String of = "seed " + seed + ", way " + way;
                due(of + ", rest()", x.rest(), 1);
                for (int i = 0; i < 12; i++) {
                    dueVariable(of, x, i, DIST, x.distance(i));
                }
            }
        }
    }

    private static void wavesBringTheSum() {
        for (int seed = 1; seed <= 12; seed++) {
            StableNet x = shaken(seed);
            settle(x, 0);
            x.run(0, 300);
            x.wave();
            due("seed " + seed + ", 0 + 1 + .. + 11", x.seen(), 66);
        }
    }

    private static void rightGoesRound() {
        StableNet x = shaken(1);
        settle(x, 0);
        int[] before = new int[12];
        for (int i = 0; i < 12; i++) {
            before[i] = x.entries(i);
        }
        for (int c = 0; c < 22; c++) {
            x.run(0, 1);
            due("one RIGHT", x.rights(), 1);
        }
        x.run(0, 60);
        for (int i = 0; i < 12; i++) {
            Check.holds("NODE " + i + " has entered", x.entries(i) > before[i]);
        }
    }

    private static void anyMayAct() {
        StableNet x = builtLine(3);
        due("none", x.step(0), 0);
        due("the ROOT alone", x.step(1), 1);
        due("the last alone", x.step(4), 1);
        due("two together", x.step(3), 2);
        // NODE 1 has nothing to do: its PARENT is CLEAN, and its X are as those BEFORE them.
        due("all, of whom one is not ENABLED", x.step(-1), 2);
    }

    private static void faultsOverwrite() {
        for (int v : new int[] {LOW, -1, 0, 1, HIGH}) {
            StableNet x = quietLine(3);
            for (int i = 0; i < 3; i++) {
                for (int what = DIST; what < 7; what++) {
                    int want = what == VALUE || what == 6 && i != 1 ? OUTSIDE : 1;
                    due("fault(" + i + ", " + what + ", " + v + ")", x.fault(i, what, v), want);
                }
            }
            settle(x, 3);
            due("it comes to rest behind " + v, x.rest(), 1);
        }
    }

    // ---- 1

    private static void nodes() {
        for (int n : new int[] {2, 3, 12}) {
            StableNet x = new StableNet();
            x.open(n);
            due("count(0)", x.count(0), n);
            due("the first of " + n, x.value(0, 1), 0);
            due("the last of " + n, x.value(n - 1, 1), 0);
            due("one beyond " + n, x.value(n, 1), UNKNOWN);
            due("one ahead", x.value(-1, 1), UNKNOWN);
        }
    }

    private static void root() {
        for (int n : new int[] {2, 12}) {
            StableNet x = full(n);
            x.build();
            due("TRUE DISTANCE", x.distance(0), 0);
            x.fault(0, DIST, 1);
            x.fault(0, PARENT, n - 1);
            x.step(-1);
            dueNode("the ROOT of " + n, x, 0, 0, NONE);
            for (int i = 1; i < n; i++) {
                due("NODE " + i + " is another one", x.distance(i), 1);
                x.step(1 << i);
                dueNode("NODE " + i, x, i, 1, 0);
            }
        }
    }

    private static void links() {
        StableNet x = linked(12, 3, 11);
        due("to", x.neighbour(3, 0), 11);
        due("fro", x.neighbour(11, 0), 3);
        due("no other", x.neighbour(0, 0), NONE);
        due("it is there already", x.link(11, 3, true), 1);
        due("one LINK", x.count(1), 1);
        due("taken away the other way round", x.link(11, 3, false), 1);
        due("no more to", x.neighbour(3, 0), NONE);
        due("no more fro", x.neighbour(11, 0), NONE);
    }

    private static void lastCall() {
        StableNet x = builtLine(2);
        StableNet y = builtLine(2);
        // Three calls have been made, 508 follow, and digest() is the 512th.
        for (int c = 0; c < 508; c++) {
            x.step(3);
        }
        y.run(0, 300);
        y.run(0, 208);
        due("the 512th call", x.digest(), y.digest());
    }

    // ---- terms

    private static void neighboursInOrder() {
        StableNet x = linked(12, 5, 11, 5, 0, 7, 5, 1, 5);
        int[] want = {0, 1, 7, 11, NONE};
        for (int k = 0; k < want.length; k++) {
            due("neighbour(5, " + k + ")", x.neighbour(5, k), want[k]);
        }
    }

    private static void variablesAreInts() {
        StableNet x = full(12);
        x.build();
        for (int v : new int[] {LOW, HIGH}) {
            x.value(11, v);
            dueVariable("VALUE", x, 11, VALUE, v);
            for (int what : new int[] {DIST, PARENT, PHASE, SUM, X, X + 10}) {
                x.fault(11, what, v);
                dueVariable("fault(11, " + what + ", " + v + ")", x, 11, what, v);
            }
        }
        due("an X of each NEIGHBOUR, no more", x.told(11, X + 11), OUTSIDE);
    }

    private static void k() {
        for (int n : new int[] {2, 5, 12}) {
            StableNet x = quietLine(n);
            x.fault(1, X, 2 * n);
            Check.holds("2 n is below K for " + n, x.enabled(1) != 0);
            x.fault(1, X, 2 * n + 1);
            due("2 n + 1 is not", x.enabled(1), 0);
        }
    }

    /** Whether NODE i is not SANE with one VARIABLE so. */
    private static void dueSane(StableNet x, int i, int what, int v, boolean is) {
        x.fault(i, what, v);
        due("NODE " + i + " is SANE with " + what + ": " + v, x.enabled(i) == 0 ? 0 : 1, is ? 1 : 0);
    }

    private static void saneDist() {
        for (int n : new int[] {2, 12}) {
            for (int i : new int[] {0, n - 1}) {
                StableNet x = quietLine(n);
                for (int v : new int[] {LOW, -2, -1, n + 1, n + 2, HIGH}) {
                    dueSane(x, i, DIST, v, false);
                }
                for (int v : new int[] {0, 1, n - 1, n}) {
                    dueSane(x, i, DIST, v, true);
                }
            }
        }
    }

    private static void saneParent() {
        StableNet x = quietLine(5);
        for (int v : NO_NEIGHBOUR_OF_1) {
            dueSane(x, 1, PARENT, v, false);
        }
        for (int v : new int[] {-1, 0, 2}) {
            dueSane(x, 1, PARENT, v, true);
        }
        dueSane(x, 0, PARENT, 0, false);
        dueSane(x, 0, PARENT, 2, false);
        dueSane(x, 0, PARENT, 1, true);
        dueSane(x, 0, PARENT, -1, true);
        dueSane(x, 4, PARENT, 0, false);
        dueSane(x, 4, PARENT, 3, true);
    }

    private static void sanePhase() {
        StableNet x = quietLine(3);
        for (int i = 0; i < 3; i++) {
            for (int v : new int[] {LOW, -1, 3, HIGH}) {
                dueSane(x, i, PHASE, v, false);
            }
            for (int v = CLEAN; v <= UP; v++) {
                dueSane(x, i, PHASE, v, true);
            }
        }
    }

    private static void saneX() {
        for (int n : new int[] {2, 12}) {
            StableNet x = full(n);
            x.build();
            for (int what : new int[] {X, X + n - 2}) {
                for (int v : new int[] {LOW, -1, 2 * n + 1, HIGH}) {
                    dueSane(x, n - 1, what, v, false);
                }
                for (int v : new int[] {0, 1, 2 * n}) {
                    dueSane(x, n - 1, what, v, true);
                }
            }
        }
    }

    private static void saneSum() {
        StableNet x = quietLine(2);
        for (int v : new int[] {LOW, -1, 0, 3, HIGH}) {
            dueSane(x, 0, SUM, v, true);
            dueSane(x, 1, SUM, v, true);
        }
    }

    private static void countsAsDist() {
        for (int v : new int[] {LOW, -1, 4, HIGH}) {
            StableNet x = quietLine(3);
            x.fault(0, DIST, v);
            x.fault(2, DIST, 3);
            x.step(2);
            dueNode("no more than n: " + v, x, 1, 3, 0);
            x.fault(0, DIST, 3);
            x.fault(2, DIST, v);
            x.fault(1, PARENT, NONE);
            x.step(2);
            dueNode("no less than n: " + v, x, 1, 3, 0);
        }
    }

    private static void countsAsParent() {
        for (int v : NO_NEIGHBOUR_OF_1) {
            StableNet x = quietLine(5);
            x.fault(1, PARENT, v);
            due("no CHILD of the ROOT: " + v, x.child(0, 0), NONE);
            due("nor of itself", x.child(1, 0), 2);
            due("nor twice", x.child(1, 1), NONE);
            due("nor of NODE 3", x.child(3, 0), 4);
            phases(x, DOWN, CLEAN, UP, CLEAN, UP);
            x.step(1);
            dueVariable("the ROOT does not await it", x, 0, PHASE, CLEAN);
            phases(x, CLEAN, CLEAN, CLEAN, DOWN, UP);
            x.fault(3, PARENT, 2);
            x.fault(2, PHASE, DOWN);
            x.step(8);
            dueVariable("NODE 3 does not await it", x, 3, PHASE, UP);
        }
    }

    private static void countsAsPhase() {
        for (int v : new int[] {LOW, -1, 3, 4, HIGH}) {
            StableNet x = quietLine(3);
            phases(x, CLEAN, v, CLEAN);
            x.step(1);
            dueVariable("a CHILD, " + v, x, 0, PHASE, DOWN);
            phases(x, v, UP, UP);
            x.step(2);
            dueVariable("a PARENT of one that is UP, " + v, x, 1, PHASE, CLEAN);
            phases(x, v, DOWN, UP);
            x.step(2);
            dueVariable("a PARENT of one that is DOWN, " + v, x, 1, PHASE, CLEAN);
            phases(x, v, CLEAN, CLEAN);
            x.step(2);
            dueVariable("a PARENT of one that is CLEAN, " + v, x, 1, PHASE, CLEAN);
        }
    }

    private static void countsAsX() {
        for (int v : new int[] {LOW, -1, 7, HIGH}) {
            StableNet x = quietLine(3);
            x.fault(0, X, v);
            due("(1, 2) has 0 BEFORE it, and 0", x.enabled(1), NONE);
            x.fault(1, X + 1, 4);
            x.step(2);
            dueVariable("X of the one BEFORE, " + v, x, 1, X + 1, 0);
        }
    }

    private static void readsItsOwn() {
        StableNet x = quietLine(3);
        x.fault(1, X + 1, 6);
        due("its own K - 1 differs from 0", x.enabled(1), 3);
        x.fault(1, DIST, 3);
        due("its own DIST n is not 1", x.enabled(1), 1);
        x.fault(1, DIST, 1);
        x.fault(1, PARENT, 2);
        due("its own PARENT 2 is not 0", x.enabled(1), 1);
        x.fault(1, PARENT, 0);
        x.fault(1, PHASE, UP);
        due("its own PHASE UP", x.enabled(1), 2);
        x.fault(1, PHASE, 3);
        x.step(2);
        dueVariable("it becomes SANE first", x, 1, PHASE, CLEAN);
        dueVariable("and has not entered", x, 1, X + 1, 6);
    }

    private static void ownCountSo() {
        for (int v : new int[] {LOW, -1, 7, HIGH}) {
            StableNet x = quietLine(3);
            x.fault(1, X + 1, v);
            due("rights(), X " + v, x.rights(), 1);
            due("holder(0), X " + v, x.holder(0), 0);
            due("rest(), X " + v, x.rest(), 0);
            x.fault(0, X, 5);
            // (1, 2) has 5 BEFORE it and counts as 0; BOTTOM has 0 BEFORE it, and 5.
            due("rights() of (1, 2), X " + v, x.rights(), 1);
            due("holder(0) of (1, 2), X " + v, x.holder(0), 1);
        }
        for (int v : new int[] {LOW, -2, 0, 2, 3, HIGH}) {
            StableNet x = quietLine(3);
            x.fault(2, PARENT, v);
            due("next(2, 1), PARENT " + v, x.next(2, 1), OUTSIDE);
            due("next(1, 2), PARENT " + v, x.next(1, 2), OUTSIDE);
            due("next(0, 1), PARENT " + v, x.next(0, 1), 0);
            due("rest(), PARENT " + v, x.rest(), 0);
            x.fault(2, X, 4);
            due("rights(), PARENT " + v, x.rights(), 1);
            due("holder(0), PARENT " + v, x.holder(0), 0);
        }
    }

    private static void children() {
        StableNet x = quietLine(4);
        x.fault(1, PARENT, 2);
        due("the first by number", x.child(2, 0), 1);
        due("the second", x.child(2, 1), 3);
        due("no third", x.child(2, 2), NONE);
        due("the ROOT has none", x.child(0, 0), NONE);
        x.fault(3, PARENT, 0);
        due("no NEIGHBOUR, no CHILD", x.child(0, 0), NONE);
        due("NODE 3 is gone", x.child(2, 1), NONE);
        x.fault(0, PARENT, 1);
        due("the ROOT as a CHILD", x.child(1, 0), 0);
        due("a PARENT that is a CHILD, too", x.child(1, 1), 2);
        due("a PARENT alone is none", star(3).child(1, 0), NONE);
    }

    private static void ties() {
        StableNet x = quietLine(3);
        due("CHILD 2 and PARENT 0 of NODE 1", x.next(0, 1), 2);
        due("PARENT 0 behind CHILD 2", x.next(2, 1), 0);
        x.fault(1, PARENT, 2);
        // NODES 1 and 2 are PARENTS of one another: one TIE, not two.
        due("each once", x.next(1, 2), 1);
        due("each once, the other way", x.next(2, 1), 2);
        due("no TIE of the ROOT", x.next(0, 1), OUTSIDE);
        due("no POSITION of the ROOT HAS THE RIGHT", x.rights(), 0);
        x.fault(0, PARENT, 1);
        // Of NODE 1 the TIES are the CHILDREN 0, 2 and the PARENT 2.
        due("the CHILD 0", x.next(2, 1), 0);
        due("behind it 2", x.next(0, 1), 2);
        due("BOTTOM of the ROOT's PARENT", x.holder(0), 0);
        StableNet y = built(5, 0, 2, 2, 1, 2, 3, 2, 4);
        for (int i = 0; i < 5; i++) {
            y.fault(i, PARENT, i == 2 ? 3 : 2);
        }
        int[] behind = {1, 3, NONE, 4, 0};
        for (int i = 0; i < 5; i++) {
            due("in order of numbers, behind " + i, i == 2 ? NONE : y.next(i, 2), behind[i]);
        }
    }
}
