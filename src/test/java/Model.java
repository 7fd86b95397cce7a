import java.util.ArrayList;
import java.util.List;
import java.util.SortedSet;
import java.util.TreeMap;
import java.util.TreeSet;

/**
 * The document a second time, written as its words stand and without regard to speed: nothing is
 * remembered that can be found out anew. ModelTest compares StableNet with it.
 */
final class Model {
    private static final int NONE = -1, UNKNOWN = -101, OUTSIDE = -102, STATE = -103;
    private static final int CLEAN = 0, DOWN = 1, UP = 2;

    private static final class Node {
        int dist, parent = NONE, phase, sum, value, entries;
        TreeMap<Integer, Integer> x = new TreeMap<>();

        Node copy() {
            Node c = new Node();
            c.dist = dist;
            c.parent = parent;
            c.phase = phase;
            c.sum = sum;
            c.value = value;
            c.entries = entries;
            c.x = new TreeMap<>(x);
            return c;
        }
    }

    private static final class All {
        List<Node> nodes = new ArrayList<>();
        List<TreeSet<Integer>> neighbours = new ArrayList<>();
        boolean built;
        int dice, seen, turn, steps, rounds, waves, result;
        int[] done = new int[4];
        TreeSet<Integer> awaited = new TreeSet<>();

        All(int n) {
            for (int i = 0; i < n; i++) {
                nodes.add(new Node());
                neighbours.add(new TreeSet<>());
            }
        }

        All copy() {
            All c = new All(0);
            for (Node v : nodes) {
                c.nodes.add(v.copy());
            }
            for (TreeSet<Integer> s : neighbours) {
                c.neighbours.add(new TreeSet<>(s));
            }
            c.built = built;
            c.dice = dice;
            c.seen = seen;
            c.turn = turn;
            c.steps = steps;
            c.rounds = rounds;
            c.waves = waves;
            c.result = result;
            c.done = done.clone();
            c.awaited = new TreeSet<>(awaited);
            return c;
        }
    }

    private All a = new All(2);
    private All kept = null;

    private int n() {
        return a.nodes.size();
    }

    private int bigK() {
        return 2 * n() + 1;
    }

    private boolean unknown(int i) {
        return i < 0 || i >= n();
    }

    // ---- what is read, of the state 'from'

    private int dist(All from, int i) {
        int d = from.nodes.get(i).dist;
        return d < 0 || d > n() ? n() : d;
    }

    private int parent(All from, int i) {
        int p = from.nodes.get(i).parent;
        return from.neighbours.get(i).contains(p) ? p : NONE;
    }

    private int phase(All from, int i) {
        int p = from.nodes.get(i).phase;
        return p == CLEAN || p == DOWN || p == UP ? p : CLEAN;
    }

    private int x(All from, int i, int j) {
        int x = from.nodes.get(i).x.get(j);
        return x < 0 || x >= bigK() ? 0 : x;
    }

    private boolean sane(All from, int i) {
        Node v = from.nodes.get(i);
        boolean is = v.dist == dist(from, i) && v.parent == parent(from, i) && v.phase == phase(from, i);
        for (int j : from.neighbours.get(i)) {
            is = is && v.x.get(j) == x(from, i, j);
        }
        return is;
    }

    private List<Integer> children(All from, int i) {
        List<Integer> found = new ArrayList<>();
        for (int j : from.neighbours.get(i)) {
            if (parent(from, j) == i) {
                found.add(j);
            }
        }
        return found;
    }

    private List<Integer> ties(All from, int i) {
        SortedSet<Integer> found = new TreeSet<>(children(from, i));
        if (parent(from, i) != NONE) {
            found.add(parent(from, i));
        }
        return new ArrayList<>(found);
    }

    private int[] before(All from, int i, int j) {
        List<Integer> ties = ties(from, i);
        int at = ties.indexOf(j);
        int p = at == 0 ? ties.get(ties.size() - 1) : ties.get(at - 1);
        return new int[] {p, i};
    }

    private boolean bottom(All from, int i, int j) {
        return i == 0 && ties(from, 0).get(0) == j;
    }

    private boolean right(All from, int i, int j) {
        int[] b = before(from, i, j);
        boolean differs = x(from, i, j) != x(from, b[0], b[1]);
        return bottom(from, i, j) ? !differs : differs;
    }

    private List<int[]> holders(All from) {
        List<int[]> found = new ArrayList<>();
        for (int i = 0; i < n(); i++) {
            for (int j : ties(from, i)) {
                if (right(from, i, j)) {
                    found.add(new int[] {i, j});
                }
            }
        }
        return found;
    }

    // ---- RULES: each answers whether it is ENABLED in 'from', and does it in 'to' if that is not null

    private boolean doSane(All from, All to, int i) {
        if (sane(from, i)) {
            return false;
        }
        if (to != null) {
            Node v = to.nodes.get(i);
            v.dist = dist(from, i);
            v.parent = parent(from, i);
            v.phase = phase(from, i);
            for (int j : from.neighbours.get(i)) {
                v.x.put(j, x(from, i, j));
            }
        }
        return true;
    }

    private boolean doTree(All from, All to, int i) {
        int d = 0;
        int p = NONE;
        if (i != 0) {
            int least = Integer.MAX_VALUE;
            for (int j : from.neighbours.get(i)) {
                least = Math.min(least, dist(from, j));
            }
            for (int j : from.neighbours.get(i).descendingSet()) {
                if (dist(from, j) == least) {
                    p = j;
                }
            }
            d = Math.min(n(), least + 1);
        }
        Node mine = from.nodes.get(i);
        if (mine.dist == d && mine.parent == p) {
            return false;
        }
        if (to != null) {
            to.nodes.get(i).dist = d;
            to.nodes.get(i).parent = p;
        }
        return true;
    }

    private boolean all(All from, int i, int phase) {
        return children(from, i).stream().allMatch(c -> phase(from, c) == phase);
    }

    private int sum(All from, int i) {
        return from.nodes.get(i).value
                + children(from, i).stream().mapToInt(c -> from.nodes.get(c).sum).sum();
    }

    private boolean doWave(All from, All to, int i) {
        int mine = from.nodes.get(i).phase;
        int p = parent(from, i);
        int above = p == NONE ? CLEAN : phase(from, p);
        int next = mine;
        boolean sums = false;
        if (i == 0) {
            if (mine == CLEAN && all(from, i, CLEAN)) {
                next = DOWN;
            } else if (mine == DOWN && all(from, i, UP)) {
                next = CLEAN;
                sums = true;
            } else if (mine == UP) {
                next = CLEAN;
            }
        } else if (mine == CLEAN && above == DOWN && all(from, i, CLEAN)) {
            next = DOWN;
        } else if (mine == DOWN && above == DOWN && all(from, i, UP)) {
            next = UP;
            sums = true;
        } else if (mine == DOWN && above != DOWN) {
            next = CLEAN;
        } else if (mine == UP && above == CLEAN) {
            next = CLEAN;
        }
        if (next == mine) {
            return false;
        }
        if (to != null) {
            to.nodes.get(i).phase = next;
            if (sums) {
                to.nodes.get(i).sum = sum(from, i);
            }
            if (sums && i == 0) {
                to.waves++;
                to.result = sum(from, i);
            }
        }
        return true;
    }

    private boolean doRing(All from, All to, int i) {
        for (int j : ties(from, i)) {
            if (right(from, i, j)) {
                if (to != null) {
                    int[] b = before(from, i, j);
                    int x = x(from, b[0], b[1]);
                    to.nodes.get(i).x.put(j, bottom(from, i, j) ? (x + 1) % bigK() : x);
                    to.nodes.get(i).entries++;
                }
                return true;
            }
        }
        return false;
    }

    private int firstRule(int i) {
        return doSane(a, null, i) ? 0 : doTree(a, null, i) ? 1
                : doWave(a, null, i) ? 2 : doRing(a, null, i) ? 3 : NONE;
    }

    private TreeSet<Integer> enabledNodes() {
        TreeSet<Integer> found = new TreeSet<>();
        for (int i = 0; i < n(); i++) {
            if (firstRule(i) != NONE) {
                found.add(i);
            }
        }
        return found;
    }

    private void act(All to, int i) {
        if (doSane(a, to, i)) {
            to.done[0]++;
        } else if (doTree(a, to, i)) {
            to.done[1]++;
        } else {
            if (doWave(a, to, i)) {
                to.done[2]++;
            }
            if (doRing(a, to, i)) {
                to.done[3]++;
            }
        }
    }

    private int stepOf(TreeSet<Integer> chosen) {
        TreeSet<Integer> acting = enabledNodes();
        acting.retainAll(chosen);
        if (acting.isEmpty()) {
            return 0;
        }
        All to = a.copy();
        for (int i : acting) {
            act(to, i);
        }
        a = to;
        a.steps++;
        a.awaited.removeAll(acting);
        a.awaited.retainAll(enabledNodes());
        if (a.awaited.isEmpty()) {
            a.rounds++;
            a.awaited = enabledNodes();
        }
        return acting.size();
    }

    private int stepBy(int way) {
        TreeSet<Integer> chosen = new TreeSet<>();
        TreeSet<Integer> enabled = enabledNodes();
        if (way == 0) {
            chosen = enabled;
        } else if (way == 1 && !enabled.isEmpty()) {
            chosen.add(enabled.first());
        } else if (way == 2 && !enabled.isEmpty()) {
            chosen.add(enabled.last());
        } else if (way == 3) {
            chosen.add(a.turn);
            a.turn = (a.turn + 1) % n();
        } else if (way == 4) {
            a.dice = a.dice * 1103515245 + 12345;
            for (int k = 0; k < n(); k++) {
                if ((a.dice & 1 << 8 + k) != 0) {
                    chosen.add(k);
                }
            }
        }
        return stepOf(chosen);
    }

    private int trueDistance(int i) {
        TreeSet<Integer> reached = new TreeSet<>(List.of(0));
        for (int d = 0; d <= n(); d++) {
            if (reached.contains(i)) {
                return d;
            }
            for (int r : new ArrayList<>(reached)) {
                reached.addAll(a.neighbours.get(r));
            }
        }
        return NONE;
    }

    private boolean atRest() {
        if (!a.built) {
            return false;
        }
        for (int i = 0; i < n(); i++) {
            int d = trueDistance(i);
            int p = NONE;
            for (int j : a.neighbours.get(i).descendingSet()) {
                if (trueDistance(j) < d) {
                    p = j;
                }
            }
            Node v = a.nodes.get(i);
            if (!sane(a, i) || v.dist != d || v.parent != p) {
                return false;
            }
        }
        return holders(a).size() == 1;
    }

    private int links() {
        return a.neighbours.stream().mapToInt(TreeSet::size).sum() / 2;
    }

    private boolean noSuch(int i, int what) {
        return what < 0 || what >= 5 && what - 5 >= a.neighbours.get(i).size();
    }

    private int kth(Iterable<Integer> of, int k) {
        int at = 0;
        for (int j : of) {
            if (at++ == k) {
                return j;
            }
        }
        return NONE;
    }

    // ---- the calls

    int open(int n) {
        if (n < 2 || n > 12) {
            return OUTSIDE;
        }
        int was = n();
        All fresh = new All(n);
        fresh.dice = a.dice;
        fresh.seen = a.seen;
        a = fresh;
        return was;
    }

    int link(int p, int q, boolean is) {
        if (unknown(p) || unknown(q)) {
            return UNKNOWN;
        }
        if (p == q) {
            return OUTSIDE;
        }
        if (a.built) {
            return STATE;
        }
        int was = a.neighbours.get(p).contains(q) ? 1 : 0;
        if (is) {
            a.neighbours.get(p).add(q);
            a.neighbours.get(q).add(p);
        } else {
            a.neighbours.get(p).remove(q);
            a.neighbours.get(q).remove(p);
        }
        return was;
    }

    int build() {
        if (a.built) {
            return STATE;
        }
        for (int i = 0; i < n(); i++) {
            if (trueDistance(i) == NONE) {
                return STATE;
            }
        }
        a.built = true;
        for (int i = 0; i < n(); i++) {
            for (int j : a.neighbours.get(i)) {
                a.nodes.get(i).x.put(j, 0);
            }
        }
        a.awaited = enabledNodes();
        return links();
    }

    int value(int i, int v) {
        if (unknown(i)) {
            return UNKNOWN;
        }
        int was = a.nodes.get(i).value;
        a.nodes.get(i).value = v;
        if (a.built) {
            a.awaited = enabledNodes();
        }
        return was;
    }

    int fault(int i, int what, int v) {
        if (unknown(i)) {
            return UNKNOWN;
        }
        if (what == 4 || noSuch(i, what)) {
            return OUTSIDE;
        }
        if (!a.built) {
            return STATE;
        }
        Node node = a.nodes.get(i);
        switch (what) {
            case 0 -> node.dist = v;
            case 1 -> node.parent = v;
            case 2 -> node.phase = v;
            case 3 -> node.sum = v;
            default -> node.x.put(kth(a.neighbours.get(i), what - 5), v);
        }
        a.awaited = enabledNodes();
        return 1;
    }

    int told(int i, int what) {
        if (unknown(i)) {
            return UNKNOWN;
        }
        if (noSuch(i, what)) {
            return OUTSIDE;
        }
        if (!a.built && what >= 5) {
            return STATE;
        }
        Node node = a.nodes.get(i);
        a.seen = switch (what) {
            case 0 -> node.dist;
            case 1 -> node.parent;
            case 2 -> node.phase;
            case 3 -> node.sum;
            case 4 -> node.value;
            default -> node.x.get(kth(a.neighbours.get(i), what - 5));
        };
        return 1;
    }

    int seen() {
        return a.seen;
    }

    int neighbour(int i, int k) {
        return unknown(i) ? UNKNOWN : kth(a.neighbours.get(i), k);
    }

    int child(int i, int k) {
        return unknown(i) ? UNKNOWN : kth(children(a, i), k);
    }

    int enabled(int i) {
        return unknown(i) ? UNKNOWN : a.built ? firstRule(i) : STATE;
    }

    int rights() {
        return a.built ? holders(a).size() : 0;
    }

    int holder(int k) {
        return k >= 0 && k < rights() ? holders(a).get(k)[0] : NONE;
    }

    int next(int i, int j) {
        if (unknown(i) || unknown(j)) {
            return UNKNOWN;
        }
        if (!ties(a, i).contains(j) || !ties(a, j).contains(i)) {
            return OUTSIDE;
        }
        for (int q : ties(a, j)) {
            int[] b = before(a, j, q);
            if (b[0] == i && b[1] == j) {
                return q;
            }
        }
        throw new IllegalStateException("no POSITION behind");
    }

    int step(int nodes) {
        if (!a.built) {
            return STATE;
        }
        TreeSet<Integer> chosen = new TreeSet<>();
        for (int i = 0; i < n(); i++) {
            if ((nodes & 1 << i) != 0) {
                chosen.add(i);
            }
        }
        return stepOf(chosen);
    }

    int run(int way, int n) {
        if (way < 0 || way > 4 || n < 0 || n > 300) {
            return OUTSIDE;
        }
        if (!a.built) {
            return STATE;
        }
        int acted = 0;
        for (int s = 0; s < n; s++) {
            acted += stepBy(way);
        }
        return acted;
    }

    int dice(int v) {
        int was = a.dice;
        a.dice = v;
        return was;
    }

    int settle(int way, int n) {
        if (way < 0 || way > 4 || n < 0 || n > 2000) {
            return OUTSIDE;
        }
        if (!a.built) {
            return STATE;
        }
        int steps = 0;
        while (!atRest()) {
            if (steps == n) {
                return -1 - n;
            }
            stepBy(way);
            steps++;
        }
        return steps;
    }

    int rest() {
        return atRest() ? 1 : 0;
    }

    int distance(int i) {
        return unknown(i) ? UNKNOWN : trueDistance(i);
    }

    int wave() {
        a.seen = a.result;
        return a.waves;
    }

    int entries(int i) {
        return unknown(i) ? UNKNOWN : a.nodes.get(i).entries;
    }

    int count(int what) {
        if (what < 0 || what > 8) {
            return OUTSIDE;
        }
        return switch (what) {
            case 0 -> n();
            case 1 -> links();
            case 2 -> a.steps;
            case 3 -> a.rounds;
            case 4 -> a.built ? 1 : 0;
            default -> a.done[what - 5];
        };
    }

    int keep() {
        kept = a.copy();
        return 1;
    }

    int back() {
        if (kept == null) {
            return STATE;
        }
        a = kept.copy();
        return 1;
    }

    long digest() {
        List<Integer> numbers = new ArrayList<>(List.of(n(), a.built ? 1 : 0));
        for (int i = 0; i < n(); i++) {
            Node v = a.nodes.get(i);
            numbers.addAll(List.of(v.dist, v.parent, v.phase, v.sum, v.value));
            for (int j : a.neighbours.get(i)) {
                numbers.addAll(List.of(j, a.built ? v.x.get(j) : 0));
            }
            numbers.add(v.entries);
        }
        numbers.add(a.dice);
        long h = 59;
        for (int number : numbers) {
            h = h * 31 + number;
        }
        return h;
    }
}
