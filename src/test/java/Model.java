import java.util.ArrayList;
import java.util.Arrays;
import java.util.HashMap;
import java.util.List;
import java.util.Map;

/**
 * The document once more, found in other ways: nets, pairs of ways and films by going over the grid
 * node by node with what is open at its front, distances by Floyd and Warshall.
 */
public final class Model {
    private static final int DEAR = 1_000_000;
    private final int[] ofDirection = {1, 1};
    private final int[][][] laid = new int[2][6][6];
    private final List<Integer> towns = new ArrayList<>();
    private final int[] pins = new int[36];
    private final int[][] foam = new int[6][6];
    private final boolean[] held = new boolean[8];
    private int work = 0;
    private int lost = 0;

    private static void in(boolean is) {
        if (!is) {
            throw new IndexOutOfBoundsException();
        }
    }

    private static void fit(boolean is) {
        if (!is) {
            throw new IllegalArgumentException();
        }
    }

    private static boolean isNode(int n) {
        return 0 <= n && n <= 35;
    }

    // ---- the grid

    public int cost(int direction, int cost) {
        fit(direction == 0 || direction == 1);
        fit(1 <= cost && cost <= 9);
        int before = energyOf(foam);
        int old = ofDirection[direction];
        ofDirection[direction] = cost;
        work += energyOf(foam) - before;
        return old;
    }

    public int lay(int edge, int cost) {
        in(0 <= edge && edge < 60);
        fit(0 <= cost && cost <= 50);
        int before = energyOf(foam);
        int[] row = edge < 30 ? laid[0][edge / 5] : laid[1][(edge - 30) / 6];
        int at = edge < 30 ? edge % 5 : (edge - 30) % 6;
        int old = row[at];
        row[at] = cost;
        work += energyOf(foam) - before;
        return old;
    }

    public int edge(int edge) {
        in(0 <= edge && edge < 60);
        return edge < 30 ? across(edge / 5, edge % 5) : down((edge - 30) / 6, (edge - 30) % 6);
    }

    private int across(int r, int c) {
        return ofDirection[0] + laid[0][r][c];
    }

    private int down(int r, int c) {
        return ofDirection[1] + laid[1][r][c];
    }

    private int[][] distances() {
        int[][] d = new int[36][36];
        for (int[] row : d) {
            Arrays.fill(row, DEAR);
        }
        for (int n = 0; n < 36; n++) {
            d[n][n] = 0;
            int r = n / 6;
            int c = n % 6;
            if (c < 5) {
                d[n][n + 1] = across(r, c);
                d[n + 1][n] = across(r, c);
            }
            if (r < 5) {
                d[n][n + 6] = down(r, c);
                d[n + 6][n] = down(r, c);
            }
        }
        for (int k = 0; k < 36; k++) {
            for (int i = 0; i < 36; i++) {
                for (int j = 0; j < 36; j++) {
                    d[i][j] = Math.min(d[i][j], d[i][k] + d[k][j]);
                }
            }
        }
        return d;
    }

    public int apart(int node, int other) {
        in(isNode(node) && isNode(other));
        return distances()[node][other];
    }

    // ---- nets

    public int town(int node) {
        in(isNode(node));
        if (towns.contains(node) || towns.size() == 6) {
            throw new IllegalStateException();
        }
        towns.add(node);
        return towns.size() - 1;
    }

    public int away(int town) {
        in(0 <= town && town < towns.size());
        return towns.remove(town);
    }

    public int townAt(int town) {
        in(0 <= town && town < towns.size());
        return towns.get(town);
    }

    public int least() {
        return towns.size() < 2 ? 0 : cheapestNet(-1);
    }

    public int leastAnew() {
        return towns.size() > 4 ? -1 : least();
    }

    public int bound() {
        int[][] d = distances();
        int best = 0;
        for (int a : towns) {
            for (int b : towns) {
                best = Math.max(best, d[a][b]);
                for (int c : towns) {
                    best = Math.max(best, (d[a][b] + d[b][c] + d[c][a] + 1) / 2);
                }
            }
        }
        return Math.max(best, (pairs(d) + 1) / 2);
    }

    private int pairs(int[][] d) {
        List<int[]> all = new ArrayList<>();
        for (int i = 0; i < towns.size(); i++) {
            for (int j = 0; j < i; j++) {
                all.add(new int[] {d[towns.get(i)][towns.get(j)], i, j});
            }
        }
        all.sort((x, y) -> Integer.compare(x[0], y[0]));
        int[] part = {0, 1, 2, 3, 4, 5};
        int sum = 0;
        for (int[] pair : all) {
            int from = part[pair[1]];
            int to = part[pair[2]];
            if (from != to) {
                sum += pair[0];
                for (int i = 0; i < 6; i++) {
                    part[i] = part[i] == from ? to : part[i];
                }
            }
        }
        return sum;
    }

    public int gap() {
        return least() - bound();
    }

    public boolean isUsed(int edge) {
        in(0 <= edge && edge < 60);
        return towns.size() >= 2 && cheapestNet(edge) == cheapestNet(-1);
    }

    /** The cheapest net with an edge in it, or the cheapest one at all if the edge is -1. */
    private int cheapestNet(int forced) {
        int last = 0;
        for (int town : towns) {
            last = Math.max(last, town);
        }
        if (forced >= 0) {
            last = Math.max(last, forced < 30 ? forced / 5 * 6 + forced % 5 + 1 : forced - 30 + 6);
        }
        Map<Long, Integer> front = new HashMap<>();
        front.put(0L, 0);
        int best = DEAR;
        for (int node = 0; node < 36; node++) {
            Map<Long, Integer> next = new HashMap<>();
            for (Map.Entry<Long, Integer> entry : front.entrySet()) {
                growNet(next, node, entry.getKey(), entry.getValue(), forced);
            }
            front = next;
            if (node >= last) {
                for (Map.Entry<Long, Integer> entry : front.entrySet()) {
                    if (Arrays.stream(digits(entry.getKey(), 6)).max().getAsInt() == 1) {
                        best = Math.min(best, entry.getValue());
                    }
                }
            }
        }
        return best;
    }

    private void growNet(Map<Long, Integer> next, int node, long key, int cost, int forced) {
        int r = node / 6;
        int c = node % 6;
        for (int choice = 0; choice < 8; choice++) {
            boolean up = (choice & 1) != 0;
            boolean left = (choice & 2) != 0;
            boolean is = (choice & 4) != 0;
            int[] open = digits(key, 6);
            int above = open[c];
            int beside = c > 0 ? open[c - 1] : 0;
            boolean isWrong = (up && (!is || above == 0)) || (left && (!is || beside == 0));
            isWrong |= !is && towns.contains(node);
            isWrong |= !up && r > 0 && forced == 30 + node - 6;
            isWrong |= !left && c > 0 && forced == 5 * r + c - 1;
            if (isWrong) {
                continue;
            }
            int sum = cost + (up ? down(r - 1, c) : 0) + (left ? across(r, c - 1) : 0);
            open[c] = is ? 7 : 0;
            if (left) {
                rename(open, beside);
            }
            if (up) {
                rename(open, above);
            } else if (above > 0 && !has(open, above) && !(left && beside == above)) {
                continue;
            }
            next.merge(number(open), sum, Math::min);
        }
    }

    private static void rename(int[] open, int from) {
        for (int i = 0; i < open.length; i++) {
            open[i] = open[i] == from ? 7 : open[i];
        }
    }

    private static boolean has(int[] open, int label) {
        return Arrays.stream(open).anyMatch(x -> x == label);
    }

    private static int[] digits(long key, int count) {
        int[] open = new int[count];
        for (int i = 0; i < count; i++) {
            open[i] = (int) (key >> (4 * i)) & 15;
        }
        return open;
    }

    /** The labels, numbered anew in the order in which they come, as one number. */
    private static long number(int[] open) {
        int[] as = new int[16];
        int labels = 0;
        long key = 0;
        for (int i = 0; i < open.length; i++) {
            if (open[i] != 0 && as[open[i]] == 0) {
                labels++;
                as[open[i]] = labels;
            }
            key |= (long) as[open[i]] << (4 * i);
        }
        return key;
    }

    /** Two ways that share no edge are a connected set of edges, an even number of them at each node. */
    public int twoWays(int node, int other) {
        in(isNode(node) && isNode(other));
        fit(node != other);
        Map<Long, Integer> front = new HashMap<>();
        front.put(0L, 0);
        int[] best = {DEAR};
        for (int at = 0; at < 36; at++) {
            Map<Long, Integer> next = new HashMap<>();
            for (Map.Entry<Long, Integer> entry : front.entrySet()) {
                for (int out = 0; out < 4; out++) {
                    growRound(next, at, entry.getKey(), entry.getValue(), out, new int[] {node, other}, best);
                }
            }
            front = next;
        }
        return best[0];
    }

    // The digits 0 to 5 are the open edges down, 6 the open edge across, 7 and 8 the parts of both nodes.
    private void growRound(Map<Long, Integer> next, int at, long key, int cost, int out, int[] ends, int[] best) {
        int r = at / 6;
        int c = at % 6;
        boolean right = (out & 1) != 0;
        boolean below = (out & 2) != 0;
        if ((right && c == 5) || (below && r == 5)) {
            return;
        }
        int[] open = digits(key, 9);
        int above = open[c];
        int left = open[6];
        int degree = (above > 0 ? 1 : 0) + (left > 0 ? 1 : 0) + (right ? 1 : 0) + (below ? 1 : 0);
        boolean isEnd = at == ends[0] || at == ends[1];
        if (degree % 2 != 0 || (isEnd && degree == 0)) {
            return;
        }
        if (above > 0) {
            rename9(open, above);
        }
        if (left > 0) {
            rename9(open, left);
        }
        open[c] = below ? 15 : 0;
        open[6] = right ? 15 : 0;
        if (at == ends[0]) {
            open[7] = 15;
        }
        if (at == ends[1]) {
            open[8] = 15;
        }
        int sum = cost + (right ? across(r, c) : 0) + (below ? down(r, c) : 0);
        int[] plugs = Arrays.copyOf(open, 7);
        if (degree > 0 && !has(plugs, 15)) {
            boolean isOne = Arrays.stream(plugs).allMatch(x -> x == 0) && open[7] == 15 && open[8] == 15;
            best[0] = isOne ? Math.min(best[0], sum) : best[0];
            return;
        }
        next.merge(number(open), sum, Math::min);
    }

    private static void rename9(int[] open, int from) {
        for (int i = 0; i < open.length; i++) {
            open[i] = open[i] == from ? 15 : open[i];
        }
    }

    // ---- films

    public int pin(int node, int as) {
        in(isNode(node));
        fit(0 <= as && as <= 2);
        int old = pins[node];
        pins[node] = as;
        return old;
    }

    public int film() {
        return cheapestFilm(-1, 0);
    }

    public int proof() {
        return film();
    }

    public long side(boolean isGreatest) {
        long set = 0;
        int best = film();
        for (int n = 0; n < 36; n++) {
            boolean is = isGreatest ? cheapestFilm(n, 1) == best : cheapestFilm(n, 2) > best;
            set |= is ? 1L << n : 0L;
        }
        return set;
    }

    /** What the cheapest film costs if one node more is pinned; nodes are gone through with the last six in mind. */
    private int cheapestFilm(int node, int as) {
        int[] front = new int[64];
        Arrays.fill(front, DEAR);
        front[0] = 0;
        for (int at = 0; at < 36; at++) {
            int[] next = new int[64];
            Arrays.fill(next, DEAR);
            for (int mask = 0; mask < 64; mask++) {
                for (int is = 0; is < 2; is++) {
                    boolean isBarred = pins[at] == 2 - is || (at == node && as == 2 - is);
                    if (front[mask] < DEAR && !isBarred) {
                        int sum = front[mask] + filmEdges(at, mask, is);
                        int now = (mask << 1 | is) & 63;
                        next[now] = Math.min(next[now], sum);
                    }
                }
            }
            front = next;
        }
        return Arrays.stream(front).min().getAsInt();
    }

    private int filmEdges(int at, int mask, int is) {
        int r = at / 6;
        int c = at % 6;
        int sum = 0;
        if (c > 0 && (mask & 1) != is) {
            sum += across(r, c - 1);
        }
        if (r > 0 && (mask >> 5 & 1) != is) {
            sum += down(r - 1, c);
        }
        return sum;
    }

    public int costOf(long film) {
        fit(film >= 0 && film < 1L << 36);
        int sum = 0;
        for (int at = 0; at < 36; at++) {
            int is = (int) (film >> at & 1);
            if ((pins[at] == 1 && is == 0) || (pins[at] == 2 && is == 1)) {
                return -1;
            }
            int left = at > 0 ? (int) (film >> (at - 1) & 1) : 0;
            int above = at > 5 ? (int) (film >> (at - 6) & 1) : 0;
            sum += filmEdges(at, left | above << 5, is);
        }
        return sum;
    }

    // ---- the foam

    private int energyOf(int[][] f) {
        int sum = 0;
        for (int r = 0; r < 6; r++) {
            for (int c = 0; c < 6; c++) {
                sum += c < 5 && f[r][c] != f[r][c + 1] ? across(r, c) : 0;
                sum += r < 5 && f[r][c] != f[r + 1][c] ? down(r, c) : 0;
            }
        }
        return sum;
    }

    public int pull(int node, int bubble) {
        in(isNode(node));
        in(0 <= bubble && bubble < 8);
        int before = energyOf(foam);
        int old = foam[node / 6][node % 6];
        foam[node / 6][node % 6] = bubble;
        work += energyOf(foam) - before;
        return old;
    }

    public boolean hold(int bubble, boolean is) {
        in(0 <= bubble && bubble < 8);
        boolean old = held[bubble];
        held[bubble] = is;
        return old;
    }

    public int breathe(int breaths) {
        fit(1 <= breaths && breaths <= 100);
        int before = energyOf(foam);
        int moves = 0;
        for (int i = 0; i < breaths; i++) {
            moves += breath(foam);
        }
        lost += before - energyOf(foam);
        return moves;
    }

    /** The energy of the whole foam tells what a node's walls would cost less, as no other walls change. */
    private int breath(int[][] f) {
        int moves = 0;
        for (int n = 0; n < 36; n++) {
            int r = n / 6;
            int c = n % 6;
            int own = f[r][c];
            if (held[own]) {
                continue;
            }
            int least = energyOf(f);
            int best = own;
            for (int b = 0; b < 8; b++) {
                if (!held[b] && isBeside(f, r, c, b)) {
                    f[r][c] = b;
                    int energy = energyOf(f);
                    if (energy < least) {
                        least = energy;
                        best = b;
                    }
                }
            }
            f[r][c] = best;
            moves += best == own ? 0 : 1;
        }
        return moves;
    }

    private static boolean isBeside(int[][] f, int r, int c, int b) {
        return (r > 0 && f[r - 1][c] == b) || (r < 5 && f[r + 1][c] == b)
            || (c > 0 && f[r][c - 1] == b) || (c < 5 && f[r][c + 1] == b);
    }

    public int bubbleAt(int node) {
        in(isNode(node));
        return foam[node / 6][node % 6];
    }

    public int bubble(int bubble, int what) {
        in(0 <= bubble && bubble < 8);
        fit(0 <= what && what <= 4);
        int nodes = 0;
        int walls = 0;
        int met = 0;
        for (int n = 0; n < 36; n++) {
            nodes += bubbleAt(n) == bubble ? 1 : 0;
        }
        for (int b = 0; b < 8; b++) {
            walls += wall(bubble, b);
            met += wall(bubble, b) > 0 ? 1 : 0;
        }
        return new int[] {nodes, pieces(bubble), walls, met, held[bubble] ? 1 : 0}[what];
    }

    private int pieces(int bubble) {
        boolean[] gone = new boolean[36];
        int pieces = 0;
        for (int n = 0; n < 36; n++) {
            pieces += flood(gone, n / 6, n % 6, bubble) ? 1 : 0;
        }
        return pieces;
    }

    private boolean flood(boolean[] gone, int r, int c, int bubble) {
        if (r < 0 || r > 5 || c < 0 || c > 5 || gone[6 * r + c] || foam[r][c] != bubble) {
            return false;
        }
        gone[6 * r + c] = true;
        flood(gone, r - 1, c, bubble);
        flood(gone, r + 1, c, bubble);
        flood(gone, r, c - 1, bubble);
        flood(gone, r, c + 1, bubble);
        return true;
    }

    public int wall(int bubble, int other) {
        in(0 <= bubble && bubble < 8);
        in(0 <= other && other < 8);
        int sum = 0;
        for (int r = 0; r < 6; r++) {
            for (int c = 0; c < 6; c++) {
                sum += c < 5 && isWall(foam[r][c], foam[r][c + 1], bubble, other) ? across(r, c) : 0;
                sum += r < 5 && isWall(foam[r][c], foam[r + 1][c], bubble, other) ? down(r, c) : 0;
            }
        }
        return sum;
    }

    private static boolean isWall(int a, int b, int bubble, int other) {
        return a != b && Math.min(a, b) == Math.min(bubble, other) && Math.max(a, b) == Math.max(bubble, other);
    }

    public int corners(int kinds) {
        fit(1 <= kinds && kinds <= 4);
        int corners = 0;
        for (int r = 0; r < 5; r++) {
            for (int c = 0; c < 5; c++) {
                int[] four = {foam[r][c], foam[r][c + 1], foam[r + 1][c], foam[r + 1][c + 1]};
                corners += Arrays.stream(four).distinct().count() == kinds ? 1 : 0;
            }
        }
        return corners;
    }

    public int rests() {
        int[][] copy = copy();
        int breaths = 0;
        while (breath(copy) > 0) {
            breaths++;
        }
        return breaths;
    }

    private int[][] copy() {
        int[][] copy = new int[6][];
        for (int r = 0; r < 6; r++) {
            copy[r] = foam[r].clone();
        }
        return copy;
    }

    public int energy(int what) {
        fit(0 <= what && what <= 4);
        int[][] copy = copy();
        while (breath(copy) > 0) {
            continue;
        }
        return new int[] {energyOf(foam), energyOf(copy), work, lost, 0}[what];
    }
}
