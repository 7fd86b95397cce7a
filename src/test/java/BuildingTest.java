/** Promises 1 to 5: a new object, open, link, build, value. */
public final class BuildingTest extends Nets {

    public static void main(String[] args) {
        Sentences s = new Sentences("BuildingTest");
        s.in("Promise 1: A new object");
        s.say("Two NODES without a LINK, building;", BuildingTest::twoNodes);
        s.say("VALUES, VARIABLES 0, PARENTS NONE.", BuildingTest::variablesAtFirst);
        s.in("Promise 2: open");
        s.say("n NODES without LINKS,", BuildingTest::opened);
        s.say("VALUES and VARIABLES as at first, building;", BuildingTest::openedAsAtFirst);
        s.say("counts begin anew", BuildingTest::countsBeginAnew);
        s.say("(DICE, SEEN, what was kept stay;", BuildingTest::whatStays);
        s.say("turns of way 3 begin with the ROOT):", BuildingTest::turnsBegin);
        s.say("how many NODES there were.", BuildingTest::howManyThereWere);
        s.say("OUTSIDE.", BuildingTest::openOutside);
        s.in("Promise 3: link");
        s.say("A LINK between two NODES is there, or not: whether it was (1, 0).", BuildingTest::isThereOrNot);
        s.say("UNKNOWN;", BuildingTest::linkUnknown);
        s.say("OUTSIDE: a is b;", BuildingTest::linkOutside);
        s.say("STATE: it is not building.", BuildingTest::linkState);
        s.in("Promise 4: build");
        s.say("It is built (X of all is 0):", BuildingTest::isBuilt);
        s.say("how many LINKS there are.", BuildingTest::howManyLinks);
        s.say("STATE: it is already,", BuildingTest::builtAlready);
        s.say("or some NODE cannot be reached from the ROOT.", BuildingTest::notReached);
        s.in("Promise 5: value");
        s.say("The VALUE of a NODE: what it was.", BuildingTest::valueOf);
        s.say("UNKNOWN.", BuildingTest::valueUnknown);
        s.end();
    }

    // ---- 1

    private static void twoNodes() {
        StableNet x = new StableNet();
        due("count(0)", x.count(0), 2);
        due("count(1)", x.count(1), 0);
        due("count(4)", x.count(4), 0);
        due("NODE 1", x.neighbour(1, 0), NONE);
        due("NODE 0", x.neighbour(0, 0), NONE);
        due("no NODE 2", x.neighbour(2, 0), UNKNOWN);
        due("building", x.step(-1), STATE);
        due("no LINK, so no way to NODE 1", x.build(), STATE);
        due("a LINK was not there", x.link(0, 1, true), 0);
        due("it can be built", x.build(), 1);
        due("two can act", x.step(-1), 2);
    }

    private static void variablesAtFirst() {
        StableNet x = new StableNet();
        due("digest()", x.digest(), hash(2, 0, 0, -1, 0, 0, 0, 0, 0, -1, 0, 0, 0, 0, 0));
        dueNode("NODE 0", x, 0, 0, NONE, 0, 0, 0);
        dueNode("NODE 1", x, 1, 0, NONE, 0, 0, 0);
        for (int what = 1; what < 9; what++) {
            due("count(" + what + ")", x.count(what), 0);
        }
        x.link(0, 1, true);
        x.build();
        dueNode("NODE 0, built", x, 0, 0, NONE, 0, 0, 0, 0);
        dueNode("NODE 1, built", x, 1, 0, NONE, 0, 0, 0, 0);
        due("the ROOT has the first turn", x.run(3, 1), 1);
        dueVariable("NODE 0 ACTED", x, 0, PHASE, DOWN);
    }

    // ---- 2

    private static void opened() {
        StableNet x = new StableNet();
        for (int n : new int[] {2, 12, 3, 12, 2}) {
            x.open(n);
            due("count(0)", x.count(0), n);
            due("count(1)", x.count(1), 0);
            for (int i = 0; i < n; i++) {
                due("no NEIGHBOUR of " + i, x.neighbour(i, 0), NONE);
                due("distance(" + i + ")", x.distance(i), i == 0 ? 0 : NONE);
            }
            due("one NODE beyond", x.neighbour(n, 0), UNKNOWN);
            for (int i = 1; i < n; i++) {
                due("link", x.link(0, i, true), 0);
            }
        }
    }

    /** A net of twelve NODES in which all is otherwise than at first. */
    private static StableNet used() {
        StableNet x = builtStar(12);
        for (int i = 0; i < 12; i++) {
            x.value(i, 50 + i);
        }
        x.run(3, 5);
        x.run(0, 30);
        for (int i = 0; i < 12; i++) {
            for (int what = DIST; what <= X; what++) {
                x.fault(i, what, 3 + what);
            }
            x.fault(0, X + i, 3);
        }
        x.step(-1);
        return x;
    }

    private static void openedAsAtFirst() {
        for (int n : new int[] {2, 7, 12}) {
            StableNet x = used();
            x.open(n);
            StableNet y = new StableNet();
            y.open(n);
            due("building", x.count(4), 0);
            due("digest() of " + n, x.digest(), y.digest());
            for (int i = 0; i < n; i++) {
                dueNode("NODE " + i + " of " + n, x, i, 0, NONE, 0, 0, 0);
                due("no CHILD", x.child(i, 0), NONE);
            }
            due("no RIGHT", x.rights(), 0);
            due("no TIE", x.next(0, 1), OUTSIDE);
        }
        for (int n : new int[] {2, 7, 12}) {
            for (int way = 0; way < 5; way++) {
                StableNet x = used();
                openLine(x, n);
                StableNet y = new StableNet();
                openLine(y, n);
                due("way " + way + " of " + n, x.run(way, 3), y.run(way, 3));
                dueTwins("a net that was used, of " + n, x, y);
            }
        }
    }

    /** A line of n, built; what is outside of the NODES is as in a new object. */
    private static void openLine(StableNet x, int n) {
        x.open(n);
        x.told(0, DIST);
        x.dice(0);
        for (int i = 1; i < n; i++) {
            x.link(i - 1, i, true);
        }
        x.build();
        x.keep();
    }

    private static void countsBeginAnew() {
        StableNet x = used();
        x.run(0, 300);
        Check.holds("there is something to count", x.count(2) > 300 && x.count(3) > 100 && x.count(5) > 10
                && x.count(6) > 10 && x.count(7) > 100 && x.count(8) > 100 && x.wave() > 10 && x.seen() != 0);
        x.open(12);
        for (int what = 1; what < 9; what++) {
            due("count(" + what + ")", x.count(what), 0);
        }
        for (int i = 0; i < 12; i++) {
            due("entries(" + i + ")", x.entries(i), 0);
        }
        due("WAVES", x.wave(), 0);
        due("no RESULT before any", x.seen(), 0);
        StableNet y = builtLine(2);
        y.step(1);
        y.open(2);
        y.link(0, 1, true);
        y.build();
        y.step(2);
        due("the ROUND begins anew, too", y.count(3), 0);
        y.step(1);
        due("and ends", y.count(3), 1);
    }

    private static void whatStays() {
        StableNet x = builtLine(3);
        x.value(1, 7);
        x.keep();
        x.told(1, VALUE);
        x.dice(-5);
        x.open(12);
        due("SEEN stays", x.seen(), 7);
        due("DICE stay", x.dice(-5), -5);
        x.open(2);
        due("SEEN stays again", x.seen(), 7);
        due("what was kept stays", x.back(), 1);
        due("its NODES", x.count(0), 3);
        due("its LINKS", x.count(1), 2);
        dueVariable("its VALUES", x, 1, VALUE, 7);
    }

    private static void turnsBegin() {
        for (int turns = 1; turns < 3; turns++) {
            StableNet x = builtLine(3);
            x.run(3, turns);
            x.open(3);
            x.link(0, 1, true);
            x.link(1, 2, true);
            x.build();
            x.run(3, 1);
            dueVariable("the ROOT ACTED, behind turns " + turns, x, 0, PHASE, DOWN);
            dueVariable("NODE 1 did not", x, 1, DIST, 0);
            dueVariable("NODE 2 did not", x, 2, DIST, 0);
        }
    }

    private static void howManyThereWere() {
        StableNet x = new StableNet();
        int were = 2;
        for (int n : new int[] {2, 12, 12, 3, 2}) {
            due("open(" + n + ")", x.open(n), were);
            were = n;
        }
        StableNet y = builtLine(5);
        due("of a net that is built", y.open(4), 5);
    }

    private static void openOutside() {
        for (int n : new int[] {LOW, -12, -1, 0, 1, 13, 14, 32, HIGH}) {
            StableNet x = line(3);
            due("building, open(" + n + ")", x.open(n), OUTSIDE);
            due("building, NODES stay", x.count(0), 3);
            due("building, LINKS stay", x.count(1), 2);
            StableNet y = quietLine(3);
            due("built, open(" + n + ")", y.open(n), OUTSIDE);
            due("built, it stays so", y.count(4), 1);
            due("built, at rest", y.rest(), 1);
        }
        StableNet z = new StableNet();
        due("2 is not", z.open(2), 2);
        due("12 is not", z.open(12), 2);
    }

    // ---- 3

    private static void isThereOrNot() {
        StableNet x = new StableNet();
        x.open(12);
        due("it was not", x.link(1, 11, true), 0);
        due("it was", x.link(1, 11, true), 1);
        due("it was, told the other way round", x.link(11, 1, true), 1);
        due("one LINK", x.count(1), 1);
        due("taken away", x.link(11, 1, false), 1);
        due("taken away already", x.link(1, 11, false), 0);
        due("no LINK", x.count(1), 0);
        due("none that was never there", x.link(0, 1, false), 0);
        due("put back", x.link(1, 11, true), 0);
        due("NEIGHBOUR", x.neighbour(11, 0), 1);
        StableNet y = full(12);
        due("all of them", y.count(1), 66);
        due("of one less", y.link(0, 11, false), 1);
        due("all but one", y.count(1), 65);
        due("the ROOT has lost the last", y.neighbour(0, 10), NONE);
        due("NODE 11 has lost the first", y.neighbour(11, 0), 1);
    }

    private static void linkUnknown() {
        for (int n : new int[] {2, 12}) {
            StableNet x = linked(n);
            for (int i : new int[] {LOW, -1, n, n + 1, 32, HIGH}) {
                due("link(" + i + ", 0)", x.link(i, 0, true), UNKNOWN);
                due("link(0, " + i + ")", x.link(0, i, true), UNKNOWN);
                due("link(" + i + ", " + i + ")", x.link(i, i, false), UNKNOWN);
            }
            due("none was made", x.count(1), 0);
            due("the last one is known", x.link(n - 1, 0, true), 0);
        }
    }

    private static void linkOutside() {
        for (int n : new int[] {2, 12}) {
            StableNet x = linked(n);
            for (int i = 0; i < n; i++) {
                due("link(" + i + ", " + i + ", true)", x.link(i, i, true), OUTSIDE);
                due("link(" + i + ", " + i + ", false)", x.link(i, i, false), OUTSIDE);
                due("no NEIGHBOUR of itself", x.neighbour(i, 0), NONE);
            }
        }
    }

    private static void linkState() {
        StableNet x = builtLine(3);
        due("a new one", x.link(0, 2, true), STATE);
        due("one that is there", x.link(0, 1, true), STATE);
        due("to be taken away", x.link(0, 1, false), STATE);
        due("that is not there", x.link(2, 0, false), STATE);
        due("LINKS", x.count(1), 2);
        due("TRUE DISTANCE", x.distance(2), 2);
        x.open(3);
        due("building again", x.link(0, 2, true), 0);
    }

    // ---- 4

    private static void isBuilt() {
        StableNet x = full(12);
        due("not yet", x.count(4), 0);
        x.build();
        due("now", x.count(4), 1);
        for (int i = 0; i < 12; i++) {
            dueNode("NODE " + i, x, i, 0, NONE, 0, 0, 0, 0, 0, 0, 0, 0, 0, 0, 0, 0, 0, 0);
        }
        StableNet y = quietLine(2);
        y.fault(0, X, 4);
        y.fault(1, X, 3);
        y.open(2);
        y.link(0, 1, true);
        y.build();
        dueVariable("X behind another net", y, 0, X, 0);
        dueVariable("X behind another net", y, 1, X, 0);
    }

    private static void howManyLinks() {
        due("the fewest", line(2).build(), 1);
        due("a line of twelve", line(12).build(), 11);
        due("the most", full(12).build(), 66);
        StableNet x = full(4);
        x.link(2, 3, false);
        due("all of four but one", x.build(), 5);
    }

    private static void builtAlready() {
        StableNet x = quietLine(3);
        x.fault(1, X, 4);
        due("already", x.build(), STATE);
        dueVariable("X stays", x, 1, X, 4);
        x.open(2);
        due("opened: not yet, but no LINK", x.build(), STATE);
        x.link(1, 0, true);
        due("built again", x.build(), 1);
        due("already again", x.build(), STATE);
    }

    private static void notReached() {
        due("two NODES without a LINK", new StableNet().build(), STATE);
        for (int i = 1; i < 12; i++) {
            StableNet x = full(12);
            for (int j = 0; j < 12; j++) {
                if (j != i) {
                    x.link(i, j, false);
                }
            }
            due("NODE " + i + " alone", x.build(), STATE);
            due("it is building", x.count(4), 0);
            x.link(i, 11 - i, true);
            due("NODE " + i + " is reached", x.build(), 56);
        }
        StableNet y = linked(4, 0, 1, 2, 3);
        due("two parts", y.build(), STATE);
        y.link(3, 1, true);
        due("one part", y.build(), 3);
        StableNet z = linked(4, 1, 2, 2, 3, 3, 1);
        due("the ROOT alone", z.build(), STATE);
    }

    // ---- 5

    private static void valueOf() {
        StableNet x = line(12);
        due("at first", x.value(11, LOW), 0);
        due("the least int", x.value(11, HIGH), LOW);
        due("the greatest", x.value(11, -1), HIGH);
        due("of another NODE", x.value(0, 3), 0);
        x.build();
        due("it stays when built", x.value(11, 8), -1);
        dueVariable("told", x, 11, VALUE, 8);
        dueVariable("told of another NODE", x, 0, VALUE, 3);
        due("VARIABLES do not become it", x.enabled(11), 1);
    }

    private static void valueUnknown() {
        for (int n : new int[] {2, 12}) {
            StableNet x = line(n);
            for (int round = 0; round < 2; round++) {
                for (int i : new int[] {LOW, -1, n, n + 1, HIGH}) {
                    due("value(" + i + ")", x.value(i, 1), UNKNOWN);
                }
                due("the last is known", x.value(n - 1, 1), round);
                x.build();
            }
        }
    }
}
