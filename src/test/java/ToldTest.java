/** Promises 19 to 26: rest, distance, wave, entries, count, keep, back, digest. */
public final class ToldTest extends Nets {

    public static void main(String[] args) {
        Sentences s = new Sentences("ToldTest");
        s.in("Promise 19: rest");
        s.say("Whether THE NET is AT REST: 1, 0", ToldTest::whetherAtRest);
        s.say("(0 while it is building).", ToldTest::noRestWhileBuilding);
        s.in("Promise 20: distance");
        s.say("TRUE DISTANCE;", ToldTest::distanceIs);
        s.say("NONE: it cannot be reached.", ToldTest::notReached);
        s.say("UNKNOWN.", ToldTest::distanceUnknown);
        s.in("Promise 21: wave");
        s.say("SEEN becomes the RESULT of the latest WAVE", ToldTest::latestResult);
        s.say("(0 before any):", ToldTest::beforeAny);
        s.say("how many WAVES are done.", ToldTest::howManyWaves);
        s.in("Promise 22: entries");
        s.say("ENTRIES of a NODE.", ToldTest::entriesOf);
        s.say("UNKNOWN.", ToldTest::entriesUnknown);
        s.in("Promise 23: count");
        s.say("How many: 0 NODES,", ToldTest::countNodes);
        s.say("1 LINKS,", ToldTest::countLinks);
        s.say("2 STEPS in which some ACTED,", ToldTest::countSteps);
        s.say("3 ROUNDS,", ToldTest::countRounds);
        s.say("4 whether it is built,", ToldTest::countBuilt);
        s.say("5 + r how often RULE r (0 to 3) was done", ToldTest::countRules);
        s.say("(each of two that are done at once counts).", ToldTest::countTwoAtOnce);
        s.say("OUTSIDE.", ToldTest::countOutside);
        s.in("Promise 24: keep");
        s.say("All of it is kept,", ToldTest::allIsKept);
        s.say("in place of what was before: 1.", ToldTest::inPlaceOf);
        s.in("Promise 25: back");
        s.say("All is as it was kept", ToldTest::asItWasKept);
        s.say("(DICE, counts, SEEN too;", ToldTest::diceCountsSeenToo);
        s.say("what is kept stays): 1.", ToldTest::whatIsKeptStays);
        s.say("STATE: nothing was.", ToldTest::nothingWasKept);
        s.in("Promise 26: digest");
        s.say("h is 59, then for each of these numbers, in order, 31 times h, and it (as longs, wrapping):",
                ToldTest::asLongs);
        s.say("n, 1 if it is built, else 0;", ToldTest::builtOrNot);
        s.say("of each NODE DIST, PARENT, PHASE, SUM, VALUE,", ToldTest::ofEachNode);
        s.say("of each NEIGHBOUR its number and X (0 while it is building),", ToldTest::ofEachNeighbour);
        s.say("ENTRIES;", ToldTest::entriesInDigest);
        s.say("the DICE.", ToldTest::diceInDigest);
        s.end();
    }

    // ---- 19

    private static void whetherAtRest() {
        StableNet x = builtLine(2);
        due("without a tree", x.rest(), 0);
        x.step(2);
        due("the tree stands", x.rest(), 1);
        x.fault(1, DIST, 2);
        due("behind a fault", x.rest(), 0);
        x.settle(3, 50);
        due("settled", x.rest(), 1);
        due("twelve NODES", quietLine(12).rest(), 1);
    }

    private static void noRestWhileBuilding() {
        due("a new object", new StableNet().rest(), 0);
        due("a line", line(2).rest(), 0);
        StableNet x = quietLine(2);
        x.open(2);
        x.link(0, 1, true);
        due("behind a net at rest", x.rest(), 0);
    }

    // ---- 20

    private static void distanceIs() {
        StableNet x = line(12);
        due("the ROOT", x.distance(0), 0);
        due("the farthest", x.distance(11), 11);
        x.link(0, 6, true);
        due("a shorter way", x.distance(11), 6);
        due("from the other side", x.distance(4), 3);
        x.link(0, 6, false);
        due("the longer way again", x.distance(11), 11);
        x.build();
        x.fault(11, DIST, 3);
        x.fault(5, PARENT, NONE);
        due("built", x.distance(11), 11);
    }

    private static void notReached() {
        StableNet x = new StableNet();
        due("a new object", x.distance(1), NONE);
        due("the ROOT is reached always", x.distance(0), 0);
        StableNet y = line(12);
        y.link(7, 8, false);
        for (int i = 0; i < 12; i++) {
            due("cut off behind 7, distance(" + i + ")", y.distance(i), i < 8 ? i : NONE);
        }
        y.link(0, 1, false);
        due("LINKS, but no way", y.distance(1), NONE);
        y.link(0, 11, true);
        due("reached again", y.distance(8), 4);
        due("still not", y.distance(7), NONE);
        y.open(3);
        due("opened", y.distance(2), NONE);
    }

    private static void distanceUnknown() {
        for (int n : new int[] {2, 12}) {
            StableNet x = line(n);
            for (int round = 0; round < 2; round++) {
                for (int i : new int[] {LOW, -1, n, n + 1, HIGH}) {
                    due("distance(" + i + ")", x.distance(i), UNKNOWN);
                }
                due("the last is known", x.distance(n - 1), n - 1);
                x.build();
            }
        }
    }

    // ---- 21

    /** The ROOT of a line of two ends a WAVE with this RESULT. */
    private static void endWave(StableNet x, int result) {
        phases(x, DOWN, UP);
        x.value(0, result - 1);
        x.fault(1, SUM, 1);
        x.step(1);
    }

    private static void latestResult() {
        StableNet x = quietLine(2);
        for (int result : new int[] {7, LOW, HIGH, -1, 0}) {
            endWave(x, result);
            x.wave();
            due("RESULT", x.seen(), result);
        }
        endWave(x, 31);
        x.fault(0, SUM, 99);
        x.value(0, 98);
        x.told(1, SUM);
        due("SEEN is another", x.seen(), 1);
        x.wave();
        due("the RESULT stays", x.seen(), 31);
        x.wave();
        due("also when asked again", x.seen(), 31);
    }

    private static void beforeAny() {
        StableNet x = quietLine(2);
        x.value(1, 6);
        x.fault(0, SUM, 9);
        x.told(1, VALUE);
        due("SEEN", x.seen(), 6);
        due("no WAVE", x.wave(), 0);
        due("SEEN becomes 0", x.seen(), 0);
        StableNet y = new StableNet();
        due("building", y.wave(), 0);
        due("building, SEEN", y.seen(), 0);
        StableNet z = quietLine(2);
        endWave(z, 5);
        z.open(2);
        due("opened", z.wave(), 0);
        due("opened, SEEN", z.seen(), 0);
    }

    private static void howManyWaves() {
        StableNet x = quietLine(2);
        for (int done = 1; done < 5; done++) {
            endWave(x, 3);
            due("WAVES", x.wave(), done);
            due("asked again", x.wave(), done);
        }
        phases(x, UP, UP);
        x.step(1);
        due("from UP to CLEAN none is done", x.wave(), 4);
        phases(x, DOWN, DOWN);
        x.step(2);
        due("nor by another NODE", x.wave(), 4);
        StableNet y = builtLine(2);
        // The ROOT alone is DOWN and CLEAN by turns, as it has no CHILDREN.
        y.run(1, 300);
        due("150 of 300 STEPS", y.wave(), 150);
    }

    // ---- 22

    private static void entriesOf() {
        StableNet x = line(12);
        for (int i = 0; i < 12; i++) {
            due("building, entries(" + i + ")", x.entries(i), 0);
        }
        StableNet y = quietLine(2);
        y.step(1);
        due("the ROOT", y.entries(0), 1);
        due("NODE 1 not yet", y.entries(1), 0);
        y.step(2);
        due("NODE 1", y.entries(1), 1);
        y.fault(1, DIST, 9);
        y.step(2);
        y.step(2);
        due("SANE and TREE are none", y.entries(1), 1);
        y.fault(1, PHASE, DOWN);
        y.fault(0, PHASE, CLEAN);
        y.step(2);
        due("WAVE is none", y.entries(1), 1);
    }

    private static void entriesUnknown() {
        for (int n : new int[] {2, 12}) {
            StableNet x = line(n);
            for (int round = 0; round < 2; round++) {
                for (int i : new int[] {LOW, -1, n, n + 1, HIGH}) {
                    due("entries(" + i + ")", x.entries(i), UNKNOWN);
                }
                due("the last is known", x.entries(n - 1), 0);
                x.build();
            }
        }
    }

    // ---- 23

    private static void countNodes() {
        StableNet x = new StableNet();
        due("at first", x.count(0), 2);
        x.open(12);
        due("the most", x.count(0), 12);
        x.open(2);
        due("the fewest", x.count(0), 2);
        due("built", builtLine(5).count(0), 5);
    }

    private static void countLinks() {
        StableNet x = new StableNet();
        due("at first", x.count(1), 0);
        x.link(0, 1, true);
        x.link(1, 0, true);
        due("to and fro is one", x.count(1), 1);
        x.build();
        due("built", x.count(1), 1);
        due("the most", full(12).count(1), 66);
    }

    private static void countSteps() {
        StableNet x = quietLine(3);
        due("at first", x.count(2), 0);
        x.step(0);
        x.step(-2);
        due("none ACTED", x.count(2), 0);
        x.step(-1);
        due("one ACTED", x.count(2), 1);
        x.run(0, 300);
        x.settle(0, 2000);
        due("300 more", x.count(2), 301);
        StableNet y = builtLine(3);
        y.step(-1);
        due("three ACTED in one", y.count(2), 1);
    }

    private static void countRounds() {
        StableNet x = builtLine(2);
        due("at first", x.count(3), 0);
        x.step(1);
        due("NODE 1 is awaited", x.count(3), 0);
        x.step(2);
        due("one", x.count(3), 1);
        x.run(0, 300);
        due("300 more", x.count(3), 301);
        x.run(1, 0);
        due("no STEP, no ROUND", x.count(3), 301);
    }

    private static void countBuilt() {
        StableNet x = new StableNet();
        due("at first", x.count(4), 0);
        x.build();
        due("refused", x.count(4), 0);
        x.link(0, 1, true);
        x.build();
        due("built", x.count(4), 1);
        x.open(2);
        due("opened", x.count(4), 0);
    }

    private static void countRules() {
        StableNet x = quietLine(3);
        dueDone("at first", x, 0, 0, 0, 0);
        x.fault(1, DIST, 9);
        x.fault(2, DIST, 9);
        x.fault(2, X, 9);
        x.step(6);
        dueDone("SANE of two NODES", x, 2, 0, 0, 0);
        x.step(2);
        dueDone("TREE", x, 2, 1, 0, 0);
        x.step(4);
        dueDone("TREE again", x, 2, 2, 0, 0);
        x.fault(0, X, 1);
        x.step(1);
        dueDone("WAVE", x, 2, 2, 1, 0);
        x.fault(0, PHASE, CLEAN);
        x.step(2);
        dueDone("RING", x, 2, 2, 1, 1);
    }

    private static void countTwoAtOnce() {
        StableNet x = quietLine(2);
        due("one NODE", x.step(1), 1);
        dueDone("WAVE and RING of the ROOT", x, 0, 0, 1, 1);
        due("one NODE", x.step(2), 1);
        dueDone("WAVE and RING of NODE 1", x, 0, 0, 2, 2);
        due("two STEPS", x.count(2), 2);
    }

    private static void countOutside() {
        StableNet x = new StableNet();
        StableNet y = quietLine(2);
        for (int what : new int[] {LOW, -2, -1, 9, 10, 17, HIGH}) {
            due("building, count(" + what + ")", x.count(what), OUTSIDE);
            due("built, count(" + what + ")", y.count(what), OUTSIDE);
        }
        for (int what = 0; what < 9; what++) {
            Check.holds("count(" + what + ") is not outside", x.count(what) >= 0 && y.count(what) >= 0);
        }
    }

    // ---- 24, 25

    /** Built, amid a ROUND and amid the turns, with VARIABLES that are not SANE. */
    private static StableNet amid() {
        StableNet x = built(5, 0, 1, 1, 2, 2, 3, 3, 4, 4, 0, 1, 3);
        for (int i = 0; i < 5; i++) {
            x.value(i, 10 + i);
        }
        x.run(0, 60);
        x.run(3, 7);
        x.fault(2, DIST, -9);
        x.fault(3, PARENT, 3);
        x.fault(4, X, 99);
        x.fault(1, PHASE, 7);
        x.run(3, 3);
        x.dice(-77);
        x.told(4, VALUE);
        return x;
    }

    private static void changeAll(StableNet x) {
        for (int i = 0; i < 5; i++) {
            x.value(i, -3);
            for (int what = DIST; what < 8; what++) {
                x.fault(i, what, i + what);
            }
        }
        x.run(4, 100);
        x.run(3, 1);
        x.run(0, 100);
        x.wave();
        x.told(2, DIST);
    }

    private static void dueBack(String of, StableNet x, StableNet y) {
        due(of + ", back()", x.back(), 1);
        y.keep();
        dueTwins(of, x, y);
    }

    private static void allIsKept() {
        StableNet x = amid();
        due("keep()", x.keep(), 1);
        changeAll(x);
        dueBack("a net that is built", x, amid());
        StableNet y = linked(5, 0, 1, 2, 3);
        y.value(3, 8);
        y.told(3, VALUE);
        due("building, keep()", y.keep(), 1);
        y.link(0, 1, false);
        y.link(1, 2, true);
        y.value(3, 9);
        y.open(12);
        due("building, back()", y.back(), 1);
        due("building, as it was", y.digest(), hash(5, 0,
                0, -1, 0, 0, 0, 1, 0, 0,
                0, -1, 0, 0, 0, 0, 0, 0,
                0, -1, 0, 0, 0, 3, 0, 0,
                0, -1, 0, 0, 8, 2, 0, 0,
                0, -1, 0, 0, 0, 0, 0));
        due("building, SEEN", y.seen(), 8);
        due("building, TRUE DISTANCE", y.distance(1), 1);
        due("building, not reached", y.distance(2), NONE);
        due("building, LINKS go on", y.link(1, 2, true), 0);
        due("building, NODE 4 is not reached", y.build(), STATE);
        due("a new object", new StableNet().keep(), 1);
    }

    private static void inPlaceOf() {
        StableNet x = builtLine(3);
        due("first", x.keep(), 1);
        x.open(12);
        due("second", x.keep(), 1);
        x.open(4);
        x.back();
        due("the second", x.count(0), 12);
        due("which was building", x.count(4), 0);
        due("without LINKS", x.count(1), 0);
        x.back();
        due("not the first", x.count(0), 12);
        StableNet y = quietLine(3);
        y.keep();
        y.fault(1, SUM, 5);
        y.keep();
        y.fault(1, SUM, 6);
        y.back();
        dueVariable("of the same NODES", y, 1, SUM, 5);
    }

    private static void asItWasKept() {
        for (int n : new int[] {2, 5, 12}) {
            StableNet x = amid();
            x.keep();
            x.open(n);
            for (int i = 1; i < n; i++) {
                x.link(0, i, true);
            }
            x.build();
            x.run(0, 30);
            dueBack("behind a net of " + n, x, amid());
        }
        StableNet w = builtLine(3);
        w.keep();
        w.open(3);
        w.back();
        due("built, behind building", w.count(4), 1);
        due("it can act", w.step(-1), 3);
        w.open(2);
        w.link(0, 1, true);
        w.keep();
        w.build();
        w.back();
        due("building, behind built", w.count(4), 0);
        due("it can be built", w.build(), 1);
        StableNet y = builtLine(2);
        y.step(1);
        y.keep();
        y.run(0, 3);
        y.back();
        y.step(2);
        due("the ROUND is as it was: NODE 1 alone was awaited", y.count(3), 1);
        StableNet z = quietLine(3);
        z.run(3, 2);
        z.keep();
        z.run(3, 2);
        z.back();
        z.fault(1, DIST, -1);
        z.fault(2, DIST, -1);
        z.run(3, 1);
        dueVariable("the turn is as it was: NODE 2", z, 2, DIST, 3);
        dueVariable("not NODE 1", z, 1, DIST, -1);
    }

    private static void diceCountsSeenToo() {
        StableNet x = quietLine(2);
        endWave(x, 21);
        x.fault(1, DIST, 9);
        x.step(2);
        x.step(2);
        x.fault(0, PHASE, CLEAN);
        x.fault(0, X, 1);
        x.step(2);
        x.dice(5);
        x.told(1, DIST);
        int[] counts = new int[9];
        for (int what = 0; what < 9; what++) {
            counts[what] = x.count(what);
        }
        int entries = x.entries(1);
        x.keep();
        x.run(4, 300);
        x.fault(1, DIST, 9);
        x.run(0, 50);
        endWave(x, 22);
        x.told(1, VALUE);
        x.back();
        due("SEEN", x.seen(), 1);
        due("DICE", x.dice(0), 5);
        for (int what = 0; what < 9; what++) {
            due("count(" + what + ")", x.count(what), counts[what]);
        }
        due("ENTRIES", x.entries(1), entries);
        due("WAVES", x.wave(), 1);
        due("RESULT", x.seen(), 21);
    }

    private static void whatIsKeptStays() {
        StableNet x = amid();
        x.keep();
        for (int again = 0; again < 3; again++) {
            changeAll(x);
            due("back()", x.back(), 1);
        }
        dueBack("the fourth time", x, amid());
        StableNet y = amid();
        y.keep();
        due("at once", y.back(), 1);
        due("and again", y.back(), 1);
        dueBack("nothing was changed", y, amid());
    }

    private static void nothingWasKept() {
        StableNet x = new StableNet();
        due("a new object", x.back(), STATE);
        x.open(3);
        due("opened", x.back(), STATE);
        due("NODES stay", x.count(0), 3);
        x.keep();
        due("kept", x.back(), 1);
        StableNet y = amid();
        long before = y.digest();
        due("built", y.back(), STATE);
        due("it stays", y.digest(), before);
    }

    // ---- 26

    private static void asLongs() {
        // 59 times 31 to the 15th and so on, which is far beyond a long.
        due("a new object", new StableNet().digest(), 5097490781395908841L);
        due("with a LINK", line(2).digest(), -6171738404856805880L);
        StableNet x = builtLine(2);
        x.fault(0, DIST, LOW);
        x.fault(0, SUM, HIGH);
        x.value(1, LOW);
        x.dice(HIGH);
        due("the least and the greatest", x.digest(), hash(2, 1,
                LOW, -1, 0, HIGH, 0, 1, 0, 0,
                0, -1, 0, 0, LOW, 0, 0, 0, HIGH));
    }

    private static void builtOrNot() {
        StableNet x = line(2);
        due("building", x.digest(), hash(2, 0, 0, -1, 0, 0, 0, 1, 0, 0, 0, -1, 0, 0, 0, 0, 0, 0, 0));
        x.build();
        due("built", x.digest(), hash(2, 1, 0, -1, 0, 0, 0, 1, 0, 0, 0, -1, 0, 0, 0, 0, 0, 0, 0));
        x.open(3);
        due("opened", x.digest(), hash(3, 0, 0, -1, 0, 0, 0, 0, 0, -1, 0, 0, 0, 0, 0, -1, 0, 0, 0, 0, 0));
    }

    private static void ofEachNode() {
        StableNet x = builtLine(3);
        x.value(1, -5);
        x.fault(1, DIST, LOW);
        x.fault(1, PARENT, 44);
        x.fault(1, PHASE, 45);
        x.fault(1, SUM, 46);
        // They stand as they are, not as what they count as.
        due("NODE 1", x.digest(), hash(3, 1,
                0, -1, 0, 0, 0, 1, 0, 0,
                LOW, 44, 45, 46, -5, 0, 0, 2, 0, 0,
                0, -1, 0, 0, 0, 1, 0, 0, 0));
    }

    private static void ofEachNeighbour() {
        StableNet x = linked(3, 1, 2, 2, 0, 1, 0);
        long building = hash(3, 0,
                0, -1, 0, 0, 0, 1, 0, 2, 0, 0,
                0, -1, 0, 0, 0, 0, 0, 2, 0, 0,
                0, -1, 0, 0, 0, 0, 0, 1, 0, 0, 0);
        due("building", x.digest(), building);
        x.build();
        x.fault(0, X, 1);
        x.fault(0, X + 1, LOW);
        x.fault(1, X, 3);
        x.fault(1, X + 1, HIGH);
        x.fault(2, X, 5);
        x.fault(2, X + 1, 6);
        due("built", x.digest(), hash(3, 1,
                0, -1, 0, 0, 0, 1, 1, 2, LOW, 0,
                0, -1, 0, 0, 0, 0, 3, 2, HIGH, 0,
                0, -1, 0, 0, 0, 0, 5, 1, 6, 0, 0));
        x.open(3);
        x.link(0, 1, true);
        x.link(0, 2, true);
        x.link(1, 2, true);
        due("building again: X are 0", x.digest(), building);
    }

    private static void entriesInDigest() {
        StableNet x = quietLine(2);
        x.step(1);
        x.step(2);
        x.step(1);
        due("ENTRIES 2 and 1", x.digest(), hash(2, 1,
                0, -1, 1, 0, 0, 1, 2, 2,
                1, 0, 1, 0, 0, 0, 1, 1, 0));
    }

    private static void diceInDigest() {
        for (int v : new int[] {LOW, -9, 0, HIGH}) {
            StableNet x = new StableNet();
            x.dice(v);
            due("DICE " + v, x.digest(), hash(2, 0, 0, -1, 0, 0, 0, 0, 0, -1, 0, 0, 0, 0, v));
        }
    }
}
