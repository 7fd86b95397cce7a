/** Promises 6 to 14: fault, told, seen, neighbour, child, enabled, rights, holder, next. */
public final class VariablesTest extends Nets {

    public static void main(String[] args) {
        Sentences s = new Sentences("VariablesTest");
        s.in("Promise 6: fault");
        s.say("A VARIABLE becomes v, whatever that is: 1.", VariablesTest::becomesV);
        s.say("UNKNOWN;", VariablesTest::faultUnknown);
        s.say("OUTSIDE: what (4, too; no such NEIGHBOUR);", VariablesTest::faultOutside);
        s.say("STATE: it is building.", VariablesTest::faultState);
        s.in("Promise 7: told");
        s.say("A VARIABLE, VALUE: SEEN becomes it: 1.", VariablesTest::seenBecomesIt);
        s.say("UNKNOWN;", VariablesTest::toldUnknown);
        s.say("OUTSIDE (no such NEIGHBOUR, too);", VariablesTest::toldOutside);
        s.say("STATE: it is building, and what is 5 or more.", VariablesTest::toldState);
        s.in("Promise 8: seen");
        s.say("SEEN;", VariablesTest::seenIs);
        s.say("0 at first.", VariablesTest::seenAtFirst);
        s.in("Promise 9: neighbour");
        s.say("The k-th NEIGHBOUR;", VariablesTest::kthNeighbour);
        s.say("NONE.", VariablesTest::noNeighbour);
        s.say("UNKNOWN.", VariablesTest::neighbourUnknown);
        s.in("Promise 10: child");
        s.say("The k-th CHILD;", VariablesTest::kthChild);
        s.say("NONE.", VariablesTest::noChild);
        s.say("UNKNOWN.", VariablesTest::childUnknown);
        s.in("Promise 11: enabled");
        s.say("The first RULE by which a NODE is ENABLED;", VariablesTest::firstRule);
        s.say("NONE.", VariablesTest::noRule);
        s.say("UNKNOWN;", VariablesTest::enabledUnknown);
        s.say("STATE: it is building.", VariablesTest::enabledState);
        s.in("Promise 12: rights");
        s.say("How many POSITIONS HAVE THE RIGHT", VariablesTest::howManyRights);
        s.say("(0 while it is building).", VariablesTest::noRightsWhileBuilding);
        s.in("Promise 13: holder");
        s.say("The NODE of the k-th of them (by NODES, then by TIES);", VariablesTest::kthHolder);
        s.say("NONE.", VariablesTest::noHolder);
        s.in("Promise 14: next");
        s.say("The NODE j behind POSITION (i, j) in the ring: the POSITION of which it is the one BEFORE is (j, "
                + "answer).", VariablesTest::nextOf);
        s.say("UNKNOWN: i, j;", VariablesTest::nextUnknown);
        s.say("OUTSIDE: j is no TIE of i, or i none of j;", VariablesTest::nextOutside);
        s.say("STATE: it is building.", VariablesTest::nextWhileBuilding);
        s.end();
    }

    // ---- 6

    private static void becomesV() {
        StableNet x = builtLine(3);
        for (int what : new int[] {DIST, PARENT, PHASE, SUM, X, X + 1}) {
            for (int v : new int[] {LOW, -101, -2, -1, 0, 77, HIGH, what + 1}) {
                due("fault(1, " + what + ", " + v + ")", x.fault(1, what, v), 1);
                dueVariable("fault(1, " + what + ", " + v + ")", x, 1, what, v);
            }
        }
        dueNode("one does not touch another", x, 1, 1, 2, 3, 4, 0, 6, 7);
        dueNode("nor another NODE", x, 0, 0, NONE, 0, 0, 0, 0);
        dueNode("nor another NODE", x, 2, 0, NONE, 0, 0, 0, 0);
    }

    private static void faultUnknown() {
        for (int n : new int[] {2, 12}) {
            StableNet x = builtLine(n);
            for (int i : new int[] {LOW, -1, n, n + 1, HIGH}) {
                due("fault(" + i + ")", x.fault(i, DIST, 1), UNKNOWN);
                due("fault(" + i + ") of X", x.fault(i, X, 1), UNKNOWN);
            }
            due("the last is known", x.fault(n - 1, DIST, 1), 1);
        }
    }

    private static void faultOutside() {
        StableNet x = builtLine(3);
        for (int what : new int[] {LOW, -5, -1, 4, 7, 8, 16, 17, HIGH}) {
            due("fault(1, " + what + ")", x.fault(1, what, 1), OUTSIDE);
        }
        due("the first NEIGHBOUR of the last NODE", x.fault(2, X, 1), 1);
        due("no second", x.fault(2, X + 1, 1), OUTSIDE);
        dueVariable("VALUE stays", x, 1, VALUE, 0);
        StableNet y = full(12);
        y.build();
        due("eleven NEIGHBOURS", y.fault(11, X + 10, 1), 1);
        due("no twelfth", y.fault(11, X + 11, 1), OUTSIDE);
    }

    private static void faultState() {
        StableNet x = line(3);
        for (int what : new int[] {DIST, PARENT, PHASE, SUM, X, X + 1}) {
            due("fault(1, " + what + ")", x.fault(1, what, 1), STATE);
        }
        x.build();
        due("built", x.fault(1, SUM, 1), 1);
        x.open(3);
        due("building again", x.fault(1, SUM, 1), STATE);
    }

    // ---- 7

    private static void seenBecomesIt() {
        StableNet x = builtLine(3);
        int[] all = {LOW, 44, HIGH, -6, 0, 1000, -1};
        for (int what = 0; what < 7; what++) {
            x.fault(1, what, all[what]);
        }
        x.value(1, LOW + 1);
        all[VALUE] = LOW + 1;
        // They are told as they are, not as what they count as.
        dueNode("NODE 1", x, 1, all);
        dueNode("NODE 0", x, 0, 0, NONE, 0, 0, 0, 0);
        StableNet y = line(3);
        y.value(2, 9);
        dueNode("building", y, 2, 0, NONE, 0, 0, 9);
    }

    private static void toldUnknown() {
        for (int n : new int[] {2, 12}) {
            StableNet x = line(n);
            for (int round = 0; round < 2; round++) {
                for (int i : new int[] {LOW, -1, n, n + 1, HIGH}) {
                    due("told(" + i + ", 0)", x.told(i, DIST), UNKNOWN);
                    due("told(" + i + ", 5)", x.told(i, X), UNKNOWN);
                }
                due("the last is known", x.told(n - 1, DIST), 1);
                x.build();
            }
        }
    }

    private static void toldOutside() {
        StableNet x = line(3);
        x.value(1, 6);
        x.told(1, VALUE);
        for (int round = 0; round < 2; round++) {
            for (int what : new int[] {LOW, -5, -1, 7, 8, 16, 17, HIGH}) {
                due("told(1, " + what + ")", x.told(1, what), OUTSIDE);
            }
            due("no second NEIGHBOUR", x.told(2, X + 1), OUTSIDE);
            due("SEEN stays", x.seen(), 6);
            x.build();
        }
        StableNet y = full(12);
        y.build();
        due("eleven NEIGHBOURS", y.told(0, X + 10), 1);
        due("no twelfth", y.told(0, X + 11), OUTSIDE);
    }

    private static void toldState() {
        StableNet x = line(3);
        x.value(1, 6);
        due("4 is told", x.told(1, 4), 1);
        due("5", x.told(1, 5), STATE);
        due("6", x.told(1, 6), STATE);
        due("SEEN stays", x.seen(), 6);
        x.build();
        due("built, 5", x.told(1, 5), 1);
        due("built, 6", x.told(1, 6), 1);
        due("SEEN", x.seen(), 0);
        x.open(3);
        x.link(0, 1, true);
        due("building again, 5", x.told(1, 5), STATE);
        due("building again, no second NEIGHBOUR", x.told(1, 6), OUTSIDE);
    }

    // ---- 8

    private static void seenIs() {
        StableNet x = quietLine(2);
        for (int v : new int[] {LOW, -103, -1, 0, HIGH}) {
            x.value(1, v);
            x.told(1, VALUE);
            due("told", x.seen(), v);
            due("once more", x.seen(), v);
        }
        x.value(1, 4);
        x.run(0, 3);
        x.fault(1, SUM, 5);
        due("by told() and wave() alone", x.seen(), HIGH);
        x.wave();
        due("wave() before any", x.seen(), 0);
    }

    private static void seenAtFirst() {
        due("a new object", new StableNet().seen(), 0);
        StableNet x = builtLine(2);
        x.value(1, 31);
        x.run(0, 9);
        due("nothing was told", x.seen(), 0);
    }

    // ---- 9

    private static void kthNeighbour() {
        StableNet x = full(12);
        for (int i = 0; i < 12; i++) {
            for (int k = 0; k < 11; k++) {
                due("neighbour(" + i + ", " + k + ")", x.neighbour(i, k), k < i ? k : k + 1);
            }
        }
        x.build();
        due("built", x.neighbour(5, 10), 11);
    }

    private static void noNeighbour() {
        StableNet x = full(12);
        StableNet y = line(3);
        for (int k : new int[] {LOW, -12, -2, -1, 11, 12, 31, 32, HIGH}) {
            due("of eleven, neighbour(0, " + k + ")", x.neighbour(0, k), NONE);
            due("of one, neighbour(0, " + k + ")", y.neighbour(0, k), NONE);
        }
        due("of one, k = 1", y.neighbour(0, 1), NONE);
        due("of two, k = 2", y.neighbour(1, 2), NONE);
        due("of none, k = 0", new StableNet().neighbour(1, 0), NONE);
    }

    private static void neighbourUnknown() {
        for (int n : new int[] {2, 12}) {
            StableNet x = line(n);
            for (int round = 0; round < 2; round++) {
                for (int i : new int[] {LOW, -1, n, n + 1, HIGH}) {
                    due("neighbour(" + i + ", 0)", x.neighbour(i, 0), UNKNOWN);
                    due("neighbour(" + i + ", -1)", x.neighbour(i, -1), UNKNOWN);
                }
                due("the last is known", x.neighbour(n - 1, 0), n - 2);
                x.build();
            }
        }
    }

    // ---- 10

    private static void kthChild() {
        StableNet x = star(12);
        for (int k = 0; k < 11; k++) {
            due("child(0, " + k + ")", x.child(0, k), k + 1);
        }
        x.fault(1, PARENT, NONE);
        x.fault(6, PARENT, NONE);
        due("the first is another one", x.child(0, 0), 2);
        due("the fifth, too", x.child(0, 4), 7);
        due("the last", x.child(0, 8), 11);
        due("no more", x.child(0, 9), NONE);
    }

    private static void noChild() {
        StableNet x = star(12);
        for (int k : new int[] {LOW, -2, -1, 11, 12, 32, HIGH}) {
            due("of eleven, child(0, " + k + ")", x.child(0, k), NONE);
        }
        due("of a leaf", x.child(1, 0), NONE);
        StableNet y = line(3);
        due("building", y.child(0, 0), NONE);
        y.build();
        due("built, no PARENTS yet", y.child(0, 0), NONE);
        y.step(2);
        due("now there is one", y.child(0, 0), 1);
    }

    private static void childUnknown() {
        for (int n : new int[] {2, 12}) {
            StableNet x = line(n);
            for (int round = 0; round < 2; round++) {
                for (int i : new int[] {LOW, -1, n, n + 1, HIGH}) {
                    due("child(" + i + ", 0)", x.child(i, 0), UNKNOWN);
                    due("child(" + i + ", -1)", x.child(i, -1), UNKNOWN);
                }
                due("the last is known", x.child(n - 1, 0), NONE);
                x.build();
            }
        }
    }

    // ---- 11

    private static void firstRule() {
        StableNet x = builtLine(2);
        due("WAVE of the ROOT", x.enabled(0), 2);
        due("TREE", x.enabled(1), 1);
        x.step(3);
        due("RING of the ROOT", x.enabled(0), 3);
        due("WAVE", x.enabled(1), 2);
        x.fault(1, SUM, 5);
        x.fault(1, X, 5);
        due("SANE", x.enabled(1), 0);
        x.fault(0, PARENT, 1);
        due("TREE of the ROOT", x.enabled(0), 1);
        x.fault(0, PARENT, 0);
        due("SANE of the ROOT", x.enabled(0), 0);
    }

    private static void noRule() {
        StableNet x = quietLine(12);
        for (int i = 1; i < 12; i++) {
            due("enabled(" + i + ")", x.enabled(i), NONE);
        }
        x.step(1);
        due("the ROOT, too", x.enabled(0), NONE);
        due("NODE 1 no more", x.enabled(1), 2);
    }

    private static void enabledUnknown() {
        for (int n : new int[] {2, 12}) {
            StableNet x = quietLine(n);
            for (int i : new int[] {LOW, -1, n, n + 1, HIGH}) {
                due("enabled(" + i + ")", x.enabled(i), UNKNOWN);
            }
            due("the last is known", x.enabled(n - 1), NONE);
        }
    }

    private static void enabledState() {
        StableNet x = line(2);
        due("building", x.enabled(0), STATE);
        due("building", x.enabled(1), STATE);
        x.build();
        due("built", x.enabled(0), 2);
        x.open(2);
        due("building again", x.enabled(0), STATE);
    }

    // ---- 12

    /** A star of which all POSITIONS HAVE THE RIGHT: each X differs from the one BEFORE, but at BOTTOM. */
    private static StableNet allHaveTheRight() {
        StableNet x = star(12);
        for (int j = 1; j < 11; j++) {
            x.fault(j, X, 1);
        }
        x.fault(0, X + 10, 2);
        return x;
    }

    private static void howManyRights() {
        StableNet x = builtLine(3);
        due("without TIES", x.rights(), 0);
        x.step(6);
        // The ring is (0,1) (1,2) (2,1) (1,0), all X are 0.
        due("BOTTOM", x.rights(), 1);
        x.fault(1, X + 1, 3);
        due("(1,2) and (2,1), too", x.rights(), 3);
        x.fault(1, X + 1, 6);
        due("K - 1 differs from 0", x.rights(), 3);
        x.fault(2, PARENT, NONE);
        due("(0,1) and (1,0) are left", x.rights(), 1);
        due("two NODES, the fewest", quietLine(2).rights(), 1);
        due("all 22 of twelve NODES", allHaveTheRight().rights(), 22);
    }

    private static void noRightsWhileBuilding() {
        due("a new object", new StableNet().rights(), 0);
        StableNet x = line(3);
        due("with LINKS", x.rights(), 0);
        StableNet y = allHaveTheRight();
        y.open(12);
        due("opened", y.rights(), 0);
        for (int i = 1; i < 12; i++) {
            y.link(0, i, true);
        }
        due("with LINKS again", y.rights(), 0);
    }

    // ---- 13

    private static void kthHolder() {
        StableNet x = allHaveTheRight();
        for (int k = 0; k < 22; k++) {
            due("holder(" + k + ")", x.holder(k), k < 11 ? 0 : k - 10);
        }
        StableNet y = quietLine(3);
        y.fault(1, X, 2);
        y.fault(1, X + 1, 3);
        // (0,1): 0 and 2 differ, no; (1,0): 2 and 0, yes; (1,2): 3 and 0, yes; (2,1): 0 and 3, yes.
        due("first", y.holder(0), 1);
        due("second", y.holder(1), 1);
        due("third", y.holder(2), 2);
    }

    private static void noHolder() {
        StableNet x = allHaveTheRight();
        StableNet y = quietLine(2);
        for (int k : new int[] {LOW, -2, -1, 22, 23, HIGH}) {
            due("of 22, holder(" + k + ")", x.holder(k), NONE);
            due("of one, holder(" + k + ")", y.holder(k), NONE);
        }
        due("of one, holder(1)", y.holder(1), NONE);
        due("of none", builtLine(2).holder(0), NONE);
        due("building", line(2).holder(0), NONE);
    }

    // ---- 14

    private static void nextOf() {
        StableNet x = star(12);
        for (int i = 1; i < 12; i++) {
            due("from a leaf, next(" + i + ", 0)", x.next(i, 0), i == 11 ? 1 : i + 1);
            due("to a leaf, next(0, " + i + ")", x.next(0, i), 0);
        }
        x.fault(2, PARENT, NONE);
        due("TIES that are left", x.next(1, 0), 3);
        StableNet y = quietLine(12);
        for (int i = 1; i < 11; i++) {
            due("down, next(" + (i - 1) + ", " + i + ")", y.next(i - 1, i), i + 1);
            due("up, next(" + (i + 1) + ", " + i + ")", y.next(i + 1, i), i - 1);
        }
        due("at the end", y.next(10, 11), 10);
        due("at the ROOT", y.next(1, 0), 1);
        StableNet z = quietLine(2);
        due("of two NODES", z.next(0, 1), 0);
        due("and back", z.next(1, 0), 1);
        // The RIGHT goes where next() says.
        z.step(1);
        due("the holder", z.holder(0), 1);
        StableNet w = builtLine(3);
        w.fault(0, PARENT, 1);
        w.fault(1, PARENT, 2);
        due("behind the CHILD 0 comes the PARENT 2", w.next(0, 1), 2);
        due("behind the PARENT 2 comes the CHILD 0", w.next(2, 1), 0);
    }

    private static void nextUnknown() {
        for (int n : new int[] {2, 12}) {
            StableNet x = quietLine(n);
            for (int i : new int[] {LOW, -1, n, n + 1, 32, HIGH}) {
                due("next(" + i + ", 0)", x.next(i, 0), UNKNOWN);
                due("next(0, " + i + ")", x.next(0, i), UNKNOWN);
                due("next(" + i + ", " + i + ")", x.next(i, i), UNKNOWN);
            }
            due("the last is known", x.next(n - 1, n - 2), n == 2 ? 1 : n - 3);
        }
    }

    private static void nextOutside() {
        StableNet x = quietLine(3);
        due("no NEIGHBOURS", x.next(0, 2), OUTSIDE);
        due("no NEIGHBOURS", x.next(2, 0), OUTSIDE);
        for (int i = 0; i < 3; i++) {
            due("itself", x.next(i, i), OUTSIDE);
        }
        x.fault(2, PARENT, NONE);
        due("NEIGHBOURS, no TIE", x.next(1, 2), OUTSIDE);
        due("the other way", x.next(2, 1), OUTSIDE);
        x.fault(2, PARENT, 1);
        due("a TIE again", x.next(1, 2), 1);
        due("the other way again", x.next(2, 1), 0);
        due("built, no PARENTS yet", builtLine(2).next(0, 1), OUTSIDE);
    }

    /** While it is building there are no PARENTS, so no TIES: OUTSIDE, which is told ahead of STATE. */
    private static void nextWhileBuilding() {
        StableNet x = line(3);
        due("LINKS are no TIES", x.next(0, 1), OUTSIDE);
        due("UNKNOWN", x.next(0, 3), UNKNOWN);
        StableNet y = quietLine(3);
        y.open(3);
        y.link(0, 1, true);
        due("opened", y.next(0, 1), OUTSIDE);
    }
}
