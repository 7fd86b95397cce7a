import java.util.function.Supplier;
import java.util.function.ToIntFunction;

/** Section 3: STEPS, ROUNDS, TRUE DISTANCE, AT REST, and refusals. */
public final class StepsTest extends Nets {

    public static void main(String[] args) {
        Sentences s = new Sentences("StepsTest");
        s.in("3 A STEP");
        s.say("of a choice of NODES: each of them that is ENABLED ACTS,", StepsTest::eachActs);
        s.say("all at once, by what was ahead of the STEP.", StepsTest::allAtOnce);
        s.say("ROUNDS: a ROUND ends behind the STEP by which each NODE that was ENABLED at its beginning has "
                + "ACTED,", StepsTest::roundEnds);
        s.say("or was not ENABLED behind some STEP of it;", StepsTest::roundEndsWithout);
        s.say("then the next one begins;", StepsTest::nextRound);
        s.say("a STEP in which none ACTS does not count.", StepsTest::noneActs);
        s.say("Faults, and what is told from outside, begin a ROUND anew (it is not counted).",
                StepsTest::roundAnew);
        s.say("TRUE DISTANCE of a NODE is how many LINKS the shortest way from the ROOT has.",
                StepsTest::trueDistance);
        s.say("THE NET is AT REST, if all is SANE,", StepsTest::restIsSane);
        s.say("each DIST is the TRUE DISTANCE,", StepsTest::restHasDistances);
        s.say("each PARENT the least NEIGHBOUR that is nearer to the ROOT", StepsTest::restHasParents);
        s.say("(of the ROOT NONE),", StepsTest::restOfTheRoot);
        s.say("and just one POSITION of all HAS THE RIGHT.", StepsTest::restHasOneRight);
        s.say("Refusals, of several the first as told by each call: UNKNOWN (no such NODE), OUTSIDE (a number is "
                + "not as told), STATE;", StepsTest::firstRefusal);
        s.say("they change nothing.", StepsTest::refusalsChangeNothing);
        s.say("what = 0 DIST, 1 PARENT, 2 PHASE, 3 SUM, 4 VALUE (told alone), 5 + k the X of the k-th "
                + "NEIGHBOUR.", StepsTest::whatIsMeant);
        s.end();
    }

    // ---- STEPS

    private static void eachActs() {
        StableNet x = builtLine(4);
        x.fault(2, DIST, -1);
        due("two of four", x.step(6), 2);
        dueNode("the ROOT was not chosen", x, 0, 0, NONE, CLEAN);
        dueNode("NODE 1", x, 1, 1, 0);
        dueNode("NODE 2", x, 2, 4, NONE);
        dueNode("NODE 3 was not chosen", x, 3, 0, NONE);
        StableNet y = quietLine(3);
        due("the ROOT alone is ENABLED", y.step(7), 1);
        due("now it is not, but NODE 1", y.step(5), 0);
    }

    private static void allAtOnce() {
        StableNet x = builtLine(3);
        x.step(-1);
        dueNode("NODE 1", x, 1, 1, 0);
        dueNode("NODE 2 took DIST 0 of NODE 1", x, 2, 1, 1);
        StableNet y = quietLine(3);
        phases(y, DOWN, DOWN, DOWN);
        y.step(-1);
        dueVariable("NODE 2 gets UP", y, 2, PHASE, UP);
        dueVariable("NODE 1 sees that later", y, 1, PHASE, DOWN);
        StableNet z = quietLine(3);
        z.fault(0, X, 4);
        z.fault(1, X, 4);
        z.fault(1, X + 1, 1);
        z.fault(2, X, 3);
        z.step(-1);
        // BEFORE (0, 1) was 4 in (1, 0); BEFORE (1, 0) was 3 in (2, 1); BEFORE (2, 1) was 1 in (1, 2).
        dueVariable("X of the ROOT", z, 0, X, 5);
        dueVariable("X of NODE 1", z, 1, X, 3);
        dueVariable("X of NODE 2", z, 2, X, 1);
        StableNet w = quietLine(2);
        phases(w, DOWN, UP);
        w.value(0, 1);
        w.value(1, 10);
        w.fault(1, SUM, 100);
        w.fault(1, DIST, 2);
        w.step(-1);
        dueVariable("the SUM of a CHILD ahead of the STEP", w, 0, SUM, 101);
    }

    // ---- ROUNDS

    private static void roundEnds() {
        StableNet x = builtLine(3);
        x.step(1);
        due("NODES 1 and 2 have not ACTED", x.count(3), 0);
        x.step(2);
        due("NODE 2 has not", x.count(3), 0);
        x.step(1);
        due("the ROOT once more is not NODE 2", x.count(3), 0);
        x.step(4);
        due("each has ACTED", x.count(3), 1);
        StableNet y = builtLine(3);
        y.step(-1);
        due("all by one STEP", y.count(3), 1);
        StableNet z = quietLine(3);
        z.step(1);
        due("the ROOT alone was ENABLED", z.count(3), 1);
        z.step(2);
        due("then NODE 1 alone was", z.count(3), 2);
    }

    private static void roundEndsWithout() {
        StableNet x = quietLine(2);
        x.fault(0, X, 1);
        x.fault(1, X, 1);
        x.fault(0, DIST, 1);
        due("NODE 1 is to follow the ROOT", x.enabled(1), 1);
        x.step(1);
        due("now it is not ENABLED", x.enabled(1), NONE);
        due("the ROUND is over", x.count(3), 1);
        StableNet y = quietLine(4);
        y.fault(3, PHASE, UP);
        y.fault(0, DIST, 1);
        due("NODE 1 is ENABLED", y.enabled(1), 1);
        y.step(1);
        due("then it is not", y.enabled(1), NONE);
        y.step(1);
        due("then it is again", y.enabled(1), 2);
        due("NODE 3 is awaited", y.count(3), 0);
        y.step(8);
        due("NODE 1 is awaited no more", y.count(3), 1);
    }

    private static void nextRound() {
        StableNet x = builtLine(2);
        x.step(3);
        due("first", x.count(3), 1);
        x.step(1);
        due("NODE 1 is awaited in the next one, too", x.count(3), 1);
        x.step(2);
        due("second", x.count(3), 2);
        StableNet y = quietLine(2);
        y.run(0, 9);
        due("all at once: each STEP is a ROUND", y.count(3), 9);
    }

    private static void noneActs() {
        StableNet x = quietLine(3);
        due("none is chosen", x.step(0), 0);
        due("none that is ENABLED is chosen", x.step(6), 0);
        due("no STEP", x.count(2), 0);
        due("no ROUND", x.count(3), 0);
        x.step(1);
        x.step(2);
        due("turns of the ROOT and of NODE 1, when NODE 2 alone is ENABLED", x.run(3, 2), 0);
        x.dice(diceAhead(0));
        due("DICE that choose none", x.run(4, 1), 0);
        due("two STEPS", x.count(2), 2);
        due("two ROUNDS", x.count(3), 2);
        due("NODE 2", x.run(3, 1), 1);
        due("three STEPS", x.count(2), 3);
        due("three ROUNDS", x.count(3), 3);
    }

    private static void roundAnew() {
        roundAnewBy("fault()", x -> x.fault(0, SUM, 0), 1);
        roundAnewBy("fault() of another NODE", x -> x.fault(1, SUM, 5), 1);
        roundAnewBy("value()", x -> x.value(0, 5), 0);
        roundAnewBy("value() of another NODE", x -> x.value(1, 0), 0);
        roundGoesOnBehind("a fault() refused", x -> x.fault(0, VALUE, 1), OUTSIDE);
        roundGoesOnBehind("a value() refused", x -> x.value(2, 1), UNKNOWN);
        roundGoesOnBehind("told()", x -> x.told(0, SUM), 1);
        roundGoesOnBehind("dice()", x -> x.dice(3), 0);
        roundGoesOnBehind("keep()", StableNet::keep, 1);
        StableNet x = quietLine(3);
        x.fault(2, PHASE, UP);
        x.step(1);
        x.fault(2, PHASE, CLEAN);
        due("NODE 2 was awaited; that ROUND is not counted", x.count(3), 0);
        x.step(2);
        due("NODE 1 alone was ENABLED behind the fault", x.count(3), 1);
        StableNet y = quietLine(3);
        y.fault(2, PHASE, UP);
        y.step(4);
        due("the ROOT is awaited", y.count(3), 0);
        y.fault(2, PHASE, UP);
        y.step(1);
        due("NODE 2, ENABLED by a fault, is awaited", y.count(3), 0);
        y.step(4);
        due("it has ACTED", y.count(3), 1);
    }

    private static void roundAnewBy(String of, ToIntFunction<StableNet> call, int answer) {
        StableNet x = builtLine(2);
        x.step(1);
        due(of, call.applyAsInt(x), answer);
        x.step(2);
        due("behind " + of + " the ROOT is awaited again", x.count(3), 0);
        x.step(1);
        due("behind " + of + " it has ACTED", x.count(3), 1);
    }

    private static void roundGoesOnBehind(String of, ToIntFunction<StableNet> call, int answer) {
        StableNet x = builtLine(2);
        x.step(1);
        due(of, call.applyAsInt(x), answer);
        x.step(2);
        due("behind " + of + " the ROUND goes on", x.count(3), 1);
    }

    // ---- TRUE DISTANCE and AT REST

    private static void trueDistance() {
        StableNet x = line(12);
        for (int i = 0; i < 12; i++) {
            due("in a line, distance(" + i + ")", x.distance(i), i);
        }
        x.link(0, 11, true);
        int[] ring = {0, 1, 2, 3, 4, 5, 6, 5, 4, 3, 2, 1};
        for (int i = 0; i < 12; i++) {
            due("in a ring, distance(" + i + ")", x.distance(i), ring[i]);
        }
        x.build();
        x.fault(6, DIST, 2);
        due("DIST is another thing", x.distance(6), 6);
        StableNet y = full(12);
        due("each by one LINK", y.distance(11), 1);
    }

    private static void dueRest(String of, StableNet x, int want) {
        due(of + ", rest()", x.rest(), want);
        due(of + ", settle(0, 0)", x.settle(0, 0), want - 1);
    }

    private static void dueNoRest(int i, int what, int v) {
        StableNet x = quietLine(2);
        dueRest("ahead of the fault", x, 1);
        x.fault(i, what, v);
        dueRest("fault(" + i + ", " + what + ", " + v + ")", x, 0);
    }

    private static void restIsSane() {
        for (int i = 0; i < 2; i++) {
            for (int v : new int[] {LOW, -1, 3, HIGH}) {
                dueNoRest(i, PHASE, v);
            }
            for (int v : new int[] {LOW, -1, 5, HIGH}) {
                dueNoRest(i, X, v);
            }
            for (int v : new int[] {LOW, -2, 2, HIGH}) {
                dueNoRest(i, PARENT, v);
            }
        }
        StableNet x = quietLine(2);
        phases(x, UP, DOWN);
        x.fault(0, SUM, LOW);
        x.fault(1, SUM, HIGH);
        dueRest("PHASES and SUMS that are SANE", x, 1);
    }

    private static void restHasDistances() {
        dueNoRest(0, DIST, 1);
        dueNoRest(0, DIST, 2);
        dueNoRest(1, DIST, 0);
        dueNoRest(1, DIST, 2);
        StableNet x = quietLine(12);
        dueRest("a line of twelve", x, 1);
        x.fault(11, DIST, 12);
        dueRest("its last DIST", x, 0);
    }

    private static void restHasParents() {
        dueNoRest(1, PARENT, NONE);
        StableNet x = built(5, 0, 1, 0, 2, 1, 3, 2, 3, 1, 2, 3, 4);
        int[] dist = {0, 1, 1, 2, 3};
        int[] parent = {NONE, 0, 0, 1, 3};
        for (int i = 0; i < 5; i++) {
            x.fault(i, DIST, dist[i]);
            x.fault(i, PARENT, parent[i]);
        }
        dueRest("the least", x, 1);
        x.fault(3, PARENT, 2);
        dueRest("nearer, but not the least", x, 0);
        x.fault(3, PARENT, 4);
        dueRest("not nearer", x, 0);
        x.fault(3, PARENT, 1);
        dueRest("the least again", x, 1);
        x.fault(2, PARENT, 1);
        dueRest("as near as itself", x, 0);
        StableNet y = built(3, 0, 2, 2, 1);
        y.fault(2, DIST, 1);
        y.fault(2, PARENT, 0);
        y.fault(1, DIST, 2);
        y.fault(1, PARENT, 2);
        dueRest("a PARENT with a greater number", y, 1);
    }

    private static void restOfTheRoot() {
        StableNet x = quietLine(3);
        x.fault(0, PARENT, 1);
        due("the TIES are the same, and so is the RIGHT", x.rights(), 1);
        dueRest("the ROOT has a PARENT", x, 0);
        x.fault(0, PARENT, NONE);
        dueRest("it has none", x, 1);
    }

    private static void restHasOneRight() {
        StableNet x = quietLine(3);
        dueRest("one", x, 1);
        x.fault(1, X + 1, 3);
        due("three", x.rights(), 3);
        dueRest("three", x, 0);
        x.fault(0, X, 3);
        x.fault(1, X + 1, 0);
        due("one, not of BOTTOM", x.rights(), 1);
        dueRest("one, not of BOTTOM", x, 1);
        x.fault(2, X, 2);
        due("three again", x.rights(), 3);
        dueRest("three again", x, 0);
        x.fault(1, X, 2);
        due("two", x.rights(), 2);
        dueRest("two", x, 0);
    }

    // ---- refusals

    private static void firstRefusal() {
        StableNet x = line(3);
        due("building, link: UNKNOWN, OUTSIDE", x.link(3, 3, true), UNKNOWN);
        due("building, fault: all three", x.fault(3, VALUE, 0), UNKNOWN);
        due("building, fault: UNKNOWN, STATE", x.fault(-1, DIST, 0), UNKNOWN);
        due("building, fault: OUTSIDE, STATE", x.fault(1, VALUE, 0), OUTSIDE);
        due("building, fault: OUTSIDE, STATE", x.fault(1, 7, 0), OUTSIDE);
        due("building, told: all three", x.told(3, 99), UNKNOWN);
        due("building, told: UNKNOWN, STATE", x.told(-1, X), UNKNOWN);
        due("building, told: OUTSIDE, STATE", x.told(1, X + 2), OUTSIDE);
        due("building, enabled: UNKNOWN, STATE", x.enabled(3), UNKNOWN);
        due("building, next: all three", x.next(0, 3), UNKNOWN);
        due("building, next: OUTSIDE, STATE", x.next(0, 1), OUTSIDE);
        due("building, run: OUTSIDE, STATE", x.run(5, 1), OUTSIDE);
        due("building, run: OUTSIDE, STATE", x.run(0, 301), OUTSIDE);
        due("building, settle: OUTSIDE, STATE", x.settle(5, 1), OUTSIDE);
        due("building, settle: OUTSIDE, STATE", x.settle(0, 2001), OUTSIDE);
        x.build();
        due("built, link: all three", x.link(3, 3, true), UNKNOWN);
        due("built, link: UNKNOWN, STATE", x.link(0, 3, true), UNKNOWN);
        due("built, link: OUTSIDE, STATE", x.link(1, 1, true), OUTSIDE);
        due("built, fault: UNKNOWN, OUTSIDE", x.fault(3, VALUE, 0), UNKNOWN);
        due("built, told: UNKNOWN, OUTSIDE", x.told(-1, -1), UNKNOWN);
        due("built, next: UNKNOWN, OUTSIDE", x.next(3, 3), UNKNOWN);
    }

    /** Building, one NODE out of reach, with nothing kept. */
    private static StableNet building() {
        StableNet x = linked(3, 0, 1);
        x.value(1, 5);
        x.told(1, VALUE);
        x.dice(6);
        return x;
    }

    /** Built, amid a ROUND and amid the turns, with something else kept. */
    private static StableNet amid() {
        StableNet x = builtLine(3);
        x.keep();
        x.value(1, 5);
        x.run(3, 4);
        x.run(0, 7);
        x.step(1);
        x.step(2);
        x.fault(2, DIST, 9);
        x.step(1);
        x.told(1, VALUE);
        x.dice(-8);
        return x;
    }

    private static void dueRefused(String of, Supplier<StableNet> made, int answer,
            ToIntFunction<StableNet> call) {
        StableNet x = made.get();
        due(of, call.applyAsInt(x), answer);
        dueTwins(of + " changes nothing", x, made.get());
    }

    private static void refusalsChangeNothing() {
        Supplier<StableNet> building = StepsTest::building;
        dueRefused("building, build()", building, STATE, StableNet::build);
        dueRefused("building, fault()", building, STATE, x -> x.fault(0, X, 1));
        dueRefused("building, fault() of SUM", building, STATE, x -> x.fault(0, SUM, 1));
        dueRefused("building, told()", building, STATE, x -> x.told(0, X));
        dueRefused("building, enabled()", building, STATE, x -> x.enabled(0));
        dueRefused("building, step()", building, STATE, x -> x.step(-1));
        dueRefused("building, back()", building, STATE, StableNet::back);
        for (int way = 0; way < 5; way++) {
            int w = way;
            dueRefused("building, run(" + w + ", 2)", building, STATE, x -> x.run(w, 2));
            dueRefused("building, settle(" + w + ", 2)", building, STATE, x -> x.settle(w, 2));
        }
        Supplier<StableNet> amid = StepsTest::amid;
        dueRefused("build()", amid, STATE, StableNet::build);
        dueRefused("link(0, 2, true)", amid, STATE, x -> x.link(0, 2, true));
        dueRefused("link(0, 1, false)", amid, STATE, x -> x.link(0, 1, false));
        dueRefused("fault() of VALUE", amid, OUTSIDE, x -> x.fault(0, VALUE, 1));
        dueRefused("fault() without a NEIGHBOUR", amid, OUTSIDE, x -> x.fault(0, X + 1, 1));
        dueRefused("told() without a NEIGHBOUR", amid, OUTSIDE, x -> x.told(0, X + 1));
        dueRefused("next()", amid, OUTSIDE, x -> x.next(0, 2));
        for (int w : new int[] {LOW, -1, 5, HIGH}) {
            dueRefused("run(" + w + ", 2)", amid, OUTSIDE, x -> x.run(w, 2));
            dueRefused("settle(" + w + ", 2)", amid, OUTSIDE, x -> x.settle(w, 2));
        }
        for (int w = 0; w < 5; w++) {
            numbersOutside(building, w);
            numbersOutside(amid, w);
        }
        refusedOfEither("building, ", building);
        refusedOfEither("", amid);
    }

    private static void numbersOutside(Supplier<StableNet> made, int way) {
        for (int n : new int[] {LOW, -1, 301, HIGH}) {
            dueRefused("run(" + way + ", " + n + ")", made, OUTSIDE, x -> x.run(way, n));
        }
        for (int n : new int[] {LOW, -1, 2001, HIGH}) {
            dueRefused("settle(" + way + ", " + n + ")", made, OUTSIDE, x -> x.settle(way, n));
        }
    }

    private static void refusedOfEither(String of, Supplier<StableNet> made) {
        for (int n : new int[] {LOW, -1, 0, 1, 13, HIGH}) {
            dueRefused(of + "open(" + n + ")", made, OUTSIDE, x -> x.open(n));
        }
        for (int i : new int[] {LOW, -1, 3, 12, 32, HIGH}) {
            dueRefused(of + "link(" + i + ", 0)", made, UNKNOWN, x -> x.link(i, 0, true));
            dueRefused(of + "link(0, " + i + ")", made, UNKNOWN, x -> x.link(0, i, true));
            dueRefused(of + "value(" + i + ")", made, UNKNOWN, x -> x.value(i, 7));
            dueRefused(of + "fault(" + i + ")", made, UNKNOWN, x -> x.fault(i, DIST, 2));
            dueRefused(of + "told(" + i + ")", made, UNKNOWN, x -> x.told(i, DIST));
            dueRefused(of + "neighbour(" + i + ")", made, UNKNOWN, x -> x.neighbour(i, 0));
            dueRefused(of + "child(" + i + ")", made, UNKNOWN, x -> x.child(i, 0));
            dueRefused(of + "enabled(" + i + ")", made, UNKNOWN, x -> x.enabled(i));
            dueRefused(of + "next(" + i + ", 0)", made, UNKNOWN, x -> x.next(i, 0));
            dueRefused(of + "next(0, " + i + ")", made, UNKNOWN, x -> x.next(0, i));
            dueRefused(of + "distance(" + i + ")", made, UNKNOWN, x -> x.distance(i));
            dueRefused(of + "entries(" + i + ")", made, UNKNOWN, x -> x.entries(i));
        }
        dueRefused(of + "link(2, 2, true)", made, OUTSIDE, x -> x.link(2, 2, true));
        dueRefused(of + "link(2, 2, false)", made, OUTSIDE, x -> x.link(2, 2, false));
        for (int what : new int[] {LOW, -1, 7, 16, 17, HIGH}) {
            dueRefused(of + "fault(1, " + what + ")", made, OUTSIDE, x -> x.fault(1, what, 2));
            dueRefused(of + "told(1, " + what + ")", made, OUTSIDE, x -> x.told(1, what));
        }
        for (int what : new int[] {LOW, -1, 9, HIGH}) {
            dueRefused(of + "count(" + what + ")", made, OUTSIDE, x -> x.count(what));
        }
    }

    // ---- what the numbers of VARIABLES are

    private static void whatIsMeant() {
        StableNet x = built(12, 0, 1, 1, 2, 1, 3, 1, 4, 1, 5, 1, 6, 1, 7, 1, 8, 1, 9, 1, 10, 1, 11);
        x.value(1, 104);
        for (int what = 0; what < 16; what++) {
            due("fault(1, " + what + ")", x.fault(1, what, 100 + what), what == 4 ? OUTSIDE : 1);
        }
        for (int what = 0; what < 16; what++) {
            dueVariable("NODE 1", x, 1, what, 100 + what);
        }
        due("no twelfth NEIGHBOUR", x.told(1, 16), OUTSIDE);
        // In digest() stand DIST, PARENT, PHASE, SUM, VALUE, then each NEIGHBOUR with its X.
        long[] numbers = new long[2 + 12 * 6 + 22 * 2 + 1];
        int at = 0;
        numbers[at++] = 12;
        numbers[at++] = 1;
        for (int i = 0; i < 12; i++) {
            long[] first = i == 1 ? new long[] {100, 101, 102, 103, 104} : new long[] {0, -1, 0, 0, 0};
            for (long number : first) {
                numbers[at++] = number;
            }
            for (int k = 0; k < (i == 1 ? 11 : 1); k++) {
                numbers[at++] = i != 1 ? 1 : k == 0 ? 0 : k + 1;
                numbers[at++] = i == 1 ? 105 + k : 0;
            }
            at++;
        }
        due("each is at its place", x.digest(), hash(numbers));
    }
}
