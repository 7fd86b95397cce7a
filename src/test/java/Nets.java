import java.util.ArrayList;
import java.util.List;

/** Nets that the tests begin with, and what they ask of them; a test extends it to have the names. */
abstract class Nets {
    static final int NONE = -1, UNKNOWN = -101, OUTSIDE = -102, STATE = -103;
    static final int DIST = 0, PARENT = 1, PHASE = 2, SUM = 3, VALUE = 4, X = 5;
    static final int CLEAN = 0, DOWN = 1, UP = 2;
    static final int LOW = Integer.MIN_VALUE, HIGH = Integer.MAX_VALUE;

    // ---- nets

    /** n NODES, with LINKS between ends[0] and ends[1], ends[2] and ends[3], ..; not built. */
    static StableNet linked(int n, int... ends) {
        StableNet x = new StableNet();
        x.open(n);
        for (int e = 0; e + 1 < ends.length; e += 2) {
            x.link(ends[e], ends[e + 1], true);
        }
        return x;
    }

    static StableNet built(int n, int... ends) {
        StableNet x = linked(n, ends);
        x.build();
        return x;
    }

    /** NODES 0 to n - 1 in a line, not built. */
    static StableNet line(int n) {
        StableNet x = linked(n);
        for (int i = 1; i < n; i++) {
            x.link(i - 1, i, true);
        }
        return x;
    }

    static StableNet builtLine(int n) {
        StableNet x = line(n);
        x.build();
        return x;
    }

    /** A line whose tree is right; all are CLEAN, all X are 0, so that BOTTOM alone HAS THE RIGHT. */
    static StableNet quietLine(int n) {
        StableNet x = builtLine(n);
        for (int i = 1; i < n; i++) {
            x.fault(i, DIST, i);
            x.fault(i, PARENT, i - 1);
        }
        return x;
    }

    static StableNet builtStar(int n) {
        StableNet x = linked(n);
        for (int i = 1; i < n; i++) {
            x.link(0, i, true);
        }
        x.build();
        return x;
    }

    /** The ROOT amid n - 1 others, whose tree is right; all are CLEAN, all X are 0. */
    static StableNet star(int n) {
        StableNet x = builtStar(n);
        x.step(-2);
        return x;
    }

    /** Each NODE linked with each other one; not built. */
    static StableNet full(int n) {
        StableNet x = linked(n);
        for (int a = 0; a < n; a++) {
            for (int b = 0; b < a; b++) {
                x.link(a, b, true);
            }
        }
        return x;
    }

    /** PHASES of the NODES 0, 1, .. */
    static void phases(StableNet x, int... phase) {
        for (int i = 0; i < phase.length; i++) {
            x.fault(i, PHASE, phase[i]);
        }
    }

    // ---- what is asked

    static void due(String call, long got, long want) {
        Check.due(call, got, want);
    }

    static void dueVariable(String of, StableNet x, int i, int what, int want) {
        due(of + ", told(" + i + ", " + what + ")", x.told(i, what), 1);
        due(of + ", seen() of " + i + ", " + what, x.seen(), want);
    }

    /** DIST, PARENT, PHASE, SUM, VALUE, X of the first NEIGHBOUR, .., as far as they are given. */
    static void dueNode(String of, StableNet x, int i, int... want) {
        for (int what = 0; what < want.length; what++) {
            dueVariable(of, x, i, what, want[what]);
        }
    }

    /** How often each RULE was done. */
    static void dueDone(String of, StableNet x, int sane, int tree, int wave, int ring) {
        int[] want = {sane, tree, wave, ring};
        for (int r = 0; r < 4; r++) {
            due(of + ", RULE " + r, x.count(5 + r), want[r]);
        }
    }

    /** 31 times 59 and the first number, 31 times that and the second, .. */
    static long hash(long... numbers) {
        long h = 59;
        for (long number : numbers) {
            h = 31 * h + number;
        }
        return h;
    }

    /** The DICE from which the next ones come out as told: the multiplier is odd, so there are such. */
    static int diceAhead(int next) {
        int inverse = 1;
        for (int bit = 0; bit < 5; bit++) {
            inverse *= 2 - 1103515245 * inverse;
        }
        return (next - 12345) * inverse;
    }

    /** Two nets that cannot be told from one another, now, in what they do next, and behind back(). */
    static void dueTwins(String of, StableNet x, StableNet y) {
        dueAlike(of + ", now", x, y);
        for (int way = 4; way >= 3; way--) {
            due(of + ", run(" + way + ", 1)", x.run(way, 1), y.run(way, 1));
            dueAlike(of + ", behind run(" + way + ", 1)", x, y);
        }
        due(of + ", back()", x.back(), y.back());
        dueAlike(of + ", behind back()", x, y);
    }

    private static void dueAlike(String of, StableNet x, StableNet y) {
        List<Long> got = told(x);
        List<Long> want = told(y);
        due(of + ": " + got + " for " + want, got.equals(want) ? 1 : 0, 1);
    }

    private static List<Long> told(StableNet x) {
        List<Long> all = new ArrayList<>(List.of((long) x.seen(), x.digest()));
        for (int what = 0; what < 9; what++) {
            all.add((long) x.count(what));
        }
        all.addAll(List.of((long) x.rights(), (long) x.holder(0), (long) x.rest()));
        for (int i = 0; i < x.count(0); i++) {
            all.addAll(List.of((long) x.enabled(i), (long) x.child(i, 0), (long) x.distance(i)));
        }
        all.addAll(List.of((long) x.wave(), (long) x.seen()));
        return all;
    }
}
