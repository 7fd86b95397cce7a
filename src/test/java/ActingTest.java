/** Promises 15 to 18: step, run, dice, settle. */
public final class ActingTest extends Nets {

    public static void main(String[] args) {
        Sentences s = new Sentences("ActingTest");
        s.in("Promise 15: step");
        s.say("A STEP of the NODES whose bits are set", ActingTest::bitsThatAreSet);
        s.say("(others are not looked at):", ActingTest::otherBits);
        s.say("how many ACTED.", ActingTest::howManyActed);
        s.say("STATE: it is building.", ActingTest::stepState);
        s.in("Promise 16: run");
        s.say("n STEPS (0 to 300) by a way:", ActingTest::nSteps);
        s.say("0 all NODES;", ActingTest::allNodes);
        s.say("1 the least that is ENABLED;", ActingTest::theLeast);
        s.say("2 the greatest;", ActingTest::theGreatest);
        s.say("3 the NODES 0, 1, .. in turn, one a STEP,", ActingTest::inTurn);
        s.say("beginning behind that of the latest such STEP (the ROOT at first);", ActingTest::turnsGoOn);
        s.say("4 by DICE: those of which bit k of the DICE is set, k = 0 to n - 1,", ActingTest::byDice);
        s.say("the DICE being 1103515245 times themselves and 12345 ahead of each STEP (an int that wraps),",
                ActingTest::diceOfEachStep);
        s.say("bits 8 + k of it:", ActingTest::bitsOfDice);
        s.say("how many NODES ACTED in all.", ActingTest::actedInAll);
        s.say("OUTSIDE: way, n;", ActingTest::runOutside);
        s.say("STATE: it is building.", ActingTest::runState);
        s.in("Promise 17: dice");
        s.say("The DICE become v: what they were", ActingTest::diceBecome);
        s.say("(0 at first).", ActingTest::diceAtFirst);
        s.in("Promise 18: settle");
        s.say("STEPS by a way, as run() has them,", ActingTest::settleAsRun);
        s.say("till THE NET is AT REST,", ActingTest::tillAtRest);
        s.say("n at most (0 to 2000):", ActingTest::nAtMost);
        s.say("how many were done;", ActingTest::howManyWereDone);
        s.say("-1 less n: it is not.", ActingTest::itIsNot);
        s.say("OUTSIDE;", ActingTest::settleOutside);
        s.say("STATE.", ActingTest::settleState);
        s.end();
    }

    /** A built line of n, all of which are ENABLED by SANE, which no NODE can change for another one. */
    private static StableNet brokenLine(int n) {
        StableNet x = builtLine(n);
        for (int i = 0; i < n; i++) {
            x.fault(i, DIST, -1);
        }
        return x;
    }

    /** Of such a line, that those NODES have ACTED and no other one. */
    private static void dueActed(String of, StableNet x, int nodes) {
        int n = x.count(0);
        for (int i = 0; i < n; i++) {
            dueVariable(of + ", NODE " + i, x, i, DIST, (nodes >> i & 1) == 1 ? n : -1);
        }
    }

    /** A line of twelve NODES of which NODE i alone is ENABLED. */
    private static StableNet onlyEnabled(int i) {
        StableNet x = quietLine(12);
        for (int j = 0; j < i; j++) {
            x.step(1 << j);
        }
        return x;
    }

    // ---- 15

    private static void bitsThatAreSet() {
        for (int i = 0; i < 12; i++) {
            StableNet x = brokenLine(12);
            due("step(1 << " + i + ")", x.step(1 << i), 1);
            dueActed("step(1 << " + i + ")", x, 1 << i);
        }
        StableNet y = brokenLine(12);
        due("step(0xA51)", y.step(0xA51), 5);
        dueActed("step(0xA51)", y, 0xA51);
    }

    private static void otherBits() {
        for (int n : new int[] {2, 11, 12}) {
            StableNet x = brokenLine(n);
            for (int bit = n; bit < 32; bit++) {
                due("bit " + bit + " of " + n, x.step(1 << bit), 0);
            }
            due("all bits beyond " + n, x.step(-1 << n), 0);
            dueActed("none", x, 0);
            due("no STEP", x.count(2), 0);
            due("with the ROOT's", x.step(-1 << n | 1), 1);
            dueActed("the ROOT", x, 1);
        }
    }

    private static void howManyActed() {
        due("all of twelve", builtLine(12).step(-1), 12);
        due("all of two", builtLine(2).step(HIGH), 2);
        StableNet x = quietLine(12);
        due("none is chosen", x.step(0), 0);
        due("all but the ROOT, none of which is ENABLED", x.step(-2), 0);
        due("one of twelve", x.step(-1), 1);
        due("WAVE and RING of NODE 1 are one", x.step(-1), 1);
    }

    private static void stepState() {
        StableNet x = line(2);
        due("building, all", x.step(-1), STATE);
        due("building, none", x.step(0), STATE);
        x.build();
        due("built, none", x.step(0), 0);
        x.open(2);
        due("building again", x.step(0), STATE);
    }

    // ---- 16

    private static void nSteps() {
        for (int way = 0; way < 5; way++) {
            StableNet x = builtLine(3);
            x.dice(77);
            x.keep();
            due("way " + way + ", no STEP", x.run(way, 0), 0);
            StableNet y = builtLine(3);
            y.dice(77);
            y.keep();
            dueTwins("way " + way + ", 0 STEPS", x, y);
        }
        StableNet x = quietLine(3);
        due("one", x.run(1, 1), 1);
        due("300", x.run(1, 300), 300);
        due("301 in all", x.count(2), 301);
    }

    private static void allNodes() {
        StableNet x = brokenLine(12);
        due("all of twelve", x.run(0, 1), 12);
        dueActed("all", x, 0xFFF);
        due("all of two", builtLine(2).run(0, 1), 2);
        StableNet y = quietLine(12);
        due("all that are ENABLED", y.run(0, 1), 1);
        StableNet z = quietLine(12);
        z.step(-1);
        due("as step(-1)", y.digest(), z.digest());
    }

    /** NODE i of onlyEnabled(i) and those from a to b - 1 are ENABLED: that NODE i ACTS by this way. */
    private static void dueChosen(int way, int i, int a, int b) {
        StableNet x = onlyEnabled(i);
        for (int j = a; j < b; j++) {
            x.fault(j, X, 99);
        }
        String of = "way " + way + ", NODE " + i;
        due(of, x.run(way, 1), 1);
        dueVariable(of, x, i, PHASE, DOWN);
        for (int j = a; j < b; j++) {
            dueVariable(of + ", not NODE " + j, x, j, X, 99);
        }
    }

    private static void theLeast() {
        for (int i = 0; i < 12; i++) {
            dueChosen(1, i, i + 1, 12);
            dueChosen(1, i, 12, 12);
        }
        StableNet x = brokenLine(2);
        due("of two", x.run(1, 1), 1);
        dueActed("of two", x, 1);
    }

    private static void theGreatest() {
        for (int i = 0; i < 12; i++) {
            dueChosen(2, i, 0, i);
            dueChosen(2, i, 0, 0);
        }
        StableNet x = brokenLine(2);
        due("of two", x.run(2, 1), 1);
        dueActed("of two", x, 2);
    }

    private static void inTurn() {
        for (int n : new int[] {2, 3, 12}) {
            StableNet x = brokenLine(n);
            for (int i = 0; i < n; i++) {
                due("one NODE", x.run(3, 1), 1);
                due("NODE " + i + " of " + n, x.count(2), i + 1);
                dueActed("NODES to " + i + " of " + n, x, (2 << i) - 1);
            }
        }
        StableNet y = quietLine(3);
        y.fault(0, PHASE, DOWN);
        y.fault(0, X, 1);
        y.fault(1, PHASE, DOWN);
        y.fault(1, X + 1, 1);
        // NODE 2 alone is ENABLED; the turns of the others go by.
        due("the turn of the ROOT goes by", y.run(3, 1), 0);
        due("the turn of NODE 1 goes by", y.run(3, 1), 0);
        due("the turn of NODE 2", y.run(3, 1), 1);
        // Then the RIGHT is at NODE 1, and NODE 2 gets UP.
        due("three in one call", y.run(3, 3), 2);
    }

    private static void turnsGoOn() {
        for (int n : new int[] {2, 12}) {
            StableNet x = builtLine(n);
            x.run(3, n);
            for (int i = 0; i < n; i++) {
                x.fault(i, SUM, 0);
                x.fault(i, DIST, -1);
            }
            for (int i = 0; i < n; i++) {
                due("behind the last comes the ROOT: NODE " + i, x.run(3, 1), 1);
                dueVariable("NODE " + i + " is SANE", x, i, DIST, n);
            }
        }
        StableNet y = builtLine(3);
        y.run(3, 1);
        y.step(-1);
        y.run(0, 2);
        y.run(1, 2);
        y.run(2, 2);
        y.run(4, 2);
        y.fault(0, DIST, -1);
        y.fault(1, DIST, -1);
        y.fault(2, DIST, -1);
        y.run(3, 1);
        dueVariable("other STEPS are no turns: not the ROOT", y, 0, DIST, -1);
        dueVariable("but NODE 1", y, 1, DIST, 3);
        dueVariable("not NODE 2", y, 2, DIST, -1);
        StableNet z = builtLine(3);
        z.run(0, 2);
        z.fault(0, DIST, -1);
        z.run(3, 1);
        dueVariable("the ROOT at first", z, 0, DIST, 3);
    }

    private static void byDice() {
        for (int n : new int[] {2, 12}) {
            for (int k = 0; k < n; k++) {
                StableNet x = brokenLine(n);
                x.dice(diceAhead(0x100 << k));
                due("bit " + k + " of " + n, x.run(4, 1), 1);
                dueActed("bit " + k + " of " + n, x, 1 << k);
            }
            StableNet y = brokenLine(n);
            y.dice(diceAhead(-1));
            due("all of " + n, y.run(4, 1), n);
            StableNet z = brokenLine(n);
            z.dice(diceAhead(0x100 << n));
            due("no NODE n of " + n, z.run(4, 1), 0);
            dueActed("none of " + n, z, 0);
        }
        StableNet w = quietLine(2);
        w.dice(diceAhead(0x200));
        due("one that is not ENABLED", w.run(4, 1), 0);
    }

    private static void diceOfEachStep() {
        StableNet x = brokenLine(6);
        // The DICE become 12345, of which bits 8 and beyond are 48: NODES 4 and 5.
        due("ahead of the STEP", x.run(4, 1), 2);
        dueActed("12345", x, 48);
        due("from 0", x.dice(-1), 12345);
        x.run(4, 1);
        due("from -1", x.dice(HIGH), -1103502900);
        x.run(4, 1);
        // 2^31 - 1 times an odd number is 2^31 less that number, by 2^32.
        due("from the greatest", x.dice(LOW), LOW - 1103515245 + 12345);
        x.run(4, 1);
        due("from the least", x.dice(0), LOW + 12345);
        x.run(4, 2);
        due("twice, wrapping", x.dice(0), 1103515245 * 12345 + 12345);
        x.run(4, 0);
        due("no STEP", x.dice(0), 0);
        StableNet y = quietLine(3);
        y.dice(diceAhead(0));
        y.run(4, 1);
        due("also where none ACTS", y.dice(0), 0);
        for (int way = 0; way < 4; way++) {
            y.dice(9);
            y.run(way, 2);
            due("way " + way + " has no DICE", y.dice(0), 9);
        }
    }

    private static void bitsOfDice() {
        for (int bit = 0; bit < 32; bit++) {
            StableNet x = brokenLine(12);
            x.dice(diceAhead(1 << bit));
            int k = bit - 8;
            due("bit " + bit, x.run(4, 1), k >= 0 && k < 12 ? 1 : 0);
            dueActed("bit " + bit, x, k >= 0 && k < 12 ? 1 << k : 0);
        }
    }

    private static void actedInAll() {
        StableNet x = builtLine(2);
        int first = x.step(-1);
        int second = x.step(-1);
        int third = x.step(-1);
        due("one by one", first, 2);
        StableNet y = builtLine(2);
        due("in one call", y.run(0, 3), first + second + third);
        StableNet z = quietLine(12);
        due("one each time, way 2", z.run(2, 11), 11);
        StableNet w = quietLine(3);
        w.step(1);
        w.step(2);
        due("turns in which none ACTS are not counted", w.run(3, 3), 1);
    }

    private static void runOutside() {
        StableNet x = quietLine(2);
        for (int n : new int[] {LOW, -300, -1, 301, 302, 2000, HIGH}) {
            for (int way = 0; way < 5; way++) {
                due("run(" + way + ", " + n + ")", x.run(way, n), OUTSIDE);
            }
        }
        for (int way : new int[] {LOW, -2, -1, 5, 6, HIGH}) {
            for (int n : new int[] {-1, 0, 1, 300, 301}) {
                due("run(" + way + ", " + n + ")", x.run(way, n), OUTSIDE);
            }
        }
        due("no STEP was done", x.count(2), 0);
        for (int way = 0; way < 5; way++) {
            due("0 is not outside, way " + way, x.run(way, 0), 0);
            Check.holds("300 is not outside, way " + way, x.run(way, 300) > 0);
        }
    }

    private static void runState() {
        StableNet x = line(2);
        for (int way = 0; way < 5; way++) {
            due("building, run(" + way + ", 1)", x.run(way, 1), STATE);
            due("building, run(" + way + ", 0)", x.run(way, 0), STATE);
        }
        due("the DICE were not thrown", x.dice(0), 0);
        x.build();
        x.run(3, 1);
        dueVariable("no turn was taken: the ROOT", x, 0, PHASE, DOWN);
        dueVariable("no turn was taken: not NODE 1", x, 1, DIST, 0);
        x.open(2);
        due("building again", x.run(0, 0), STATE);
    }

    // ---- 17

    private static void diceBecome() {
        StableNet x = new StableNet();
        int were = 0;
        for (int v : new int[] {LOW, HIGH, -1, 0, 5}) {
            due("building, dice(" + v + ")", x.dice(v), were);
            were = v;
        }
        x.link(0, 1, true);
        x.build();
        due("built", x.dice(LOW), 5);
        due("built, again", x.dice(1), LOW);
    }

    private static void diceAtFirst() {
        due("a new object", new StableNet().dice(4), 0);
        StableNet x = quietLine(3);
        x.run(0, 9);
        x.settle(3, 9);
        due("not thrown yet", x.dice(4), 0);
    }

    // ---- 18

    private static void settleAsRun() {
        for (int way = 0; way < 5; way++) {
            for (int steps : new int[] {1, 2, 5}) {
                StableNet x = builtLine(12);
                StableNet y = builtLine(12);
                x.dice(77);
                y.dice(77);
                x.run(3, 2);
                y.run(3, 2);
                x.keep();
                y.keep();
                due("way " + way + ", " + steps, x.settle(way, steps), -1 - steps);
                y.run(way, steps);
                dueTwins("way " + way + ", " + steps, x, y);
            }
        }
    }

    private static void tillAtRest() {
        StableNet x = quietLine(4);
        x.fault(1, DIST, 2);
        x.fault(2, DIST, 4);
        x.fault(3, DIST, 0);
        int done = 0;
        while (x.rest() == 0 && done < 50) {
            x.step(-1);
            done++;
        }
        StableNet y = quietLine(4);
        y.fault(1, DIST, 2);
        y.fault(2, DIST, 4);
        y.fault(3, DIST, 0);
        due("no sooner and no later", y.settle(0, 2000), done);
        due("the same", y.digest(), x.digest());
        due("at rest", y.rest(), 1);
        for (int way = 0; way < 5; way++) {
            StableNet z = quietLine(4);
            z.dice(7);
            due("at rest already, way " + way, z.settle(way, 2000), 0);
            due("no STEP", z.count(2), 0);
            due("no DICE", z.dice(0), 7);
            z.run(3, 1);
            dueVariable("no turn", z, 0, PHASE, DOWN);
        }
    }

    private static void nAtMost() {
        // A line of four needs three STEPS of all.
        for (int n = 0; n < 6; n++) {
            StableNet x = builtLine(4);
            due("settle(0, " + n + ")", x.settle(0, n), n < 3 ? -1 - n : 3);
            due("STEPS", x.count(2), Math.min(n, 3));
        }
        StableNet y = builtLine(3);
        due("2000, with the ROOT alone", y.settle(1, 2000), -2001);
        due("2000 STEPS", y.count(2), 2000);
        StableNet z = quietLine(2);
        due("0, at rest", z.settle(0, 0), 0);
    }

    private static void howManyWereDone() {
        due("by all", builtLine(4).settle(0, 2000), 3);
        StableNet x = quietLine(3);
        x.step(1);
        x.fault(2, DIST, 3);
        // The turn of the ROOT is a STEP in which none ACTS, but it is done.
        due("the ROOT is not ENABLED", x.enabled(0), NONE);
        due("in turn", x.settle(3, 2000), 3);
        due("one ACTED ahead, and two of the three", x.count(2), 3);
    }

    private static void itIsNot() {
        StableNet x = builtLine(3);
        for (int n : new int[] {0, 1, 2, 300, 1999, 2000}) {
            due("settle(1, " + n + ")", x.settle(1, n), -1 - n);
        }
        StableNet y = builtLine(4);
        due("one too few", y.settle(0, 2), -3);
        due("the last of them brings rest", y.settle(0, 1), 1);
    }

    private static void settleOutside() {
        StableNet x = builtLine(3);
        for (int n : new int[] {LOW, -2000, -1, 2001, 2002, HIGH}) {
            for (int way = 0; way < 5; way++) {
                due("settle(" + way + ", " + n + ")", x.settle(way, n), OUTSIDE);
            }
        }
        for (int way : new int[] {LOW, -2, -1, 5, 6, HIGH}) {
            for (int n : new int[] {-1, 0, 1, 2000, 2001}) {
                due("settle(" + way + ", " + n + ")", x.settle(way, n), OUTSIDE);
            }
        }
        due("no STEP was done", x.count(2), 0);
        StableNet y = quietLine(3);
        due("also AT REST: n", y.settle(0, 2001), OUTSIDE);
        due("also AT REST: way", y.settle(5, 0), OUTSIDE);
    }

    private static void settleState() {
        StableNet x = line(2);
        for (int way = 0; way < 5; way++) {
            due("building, settle(" + way + ", 0)", x.settle(way, 0), STATE);
            due("building, settle(" + way + ", 2000)", x.settle(way, 2000), STATE);
        }
        StableNet y = quietLine(2);
        y.open(2);
        due("building again", y.settle(0, 0), STATE);
    }
}
