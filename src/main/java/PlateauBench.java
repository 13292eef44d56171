/** A bench for least nets, least films and a foam on a grid of six by six nodes; ../shared/DOC.md says what each call does. */
public final class PlateauBench {
    public static final int NONE = -1;
    public static final int ACROSS = 0, DOWN = 1;
    public static final int FREE = 0, INSIDE = 1, OUTSIDE = 2;

    private static final int SPAN = 6;
    private static final int NODES = 36;
    private static final int EDGES = 60;
    private static final int FIRST_DOWN = 30;
    private static final int SIDES = 4;
    private static final int MOST_TOWNS = 6;
    private static final int BUBBLES = 8;
    // Above every cost there is (60 edges at 59 at most), and small enough that sums of it stay ints.
    private static final int FAR = 1000000;

    private final Grid grid;
    private final TwoWays ways;
    private final Nets nets;
    private final Films films;
    private final Foam foam;

    public PlateauBench() {
        grid = new Grid();
        ways = new TwoWays();
        nets = new Nets();
        films = new Films();
        foam = new Foam();
    }

    // ---- the grid

    public int cost(int direction, int cost) throws IllegalArgumentException {
        if (direction < ACROSS || direction > DOWN) {
            throw new IllegalArgumentException("no such direction");
        }
        if (cost < 1 || cost > 9) {
            throw new IllegalArgumentException("a direction costs 1 to 9");
        }
        int energyBefore = foam.energyNow(grid);
        int old = grid.changeDirection(direction, cost);
        takeInNewPrices(energyBefore);
        return old;
    }

    public int lay(int edge, int cost) throws IndexOutOfBoundsException, IllegalArgumentException {
        checkEdge(edge);
        if (cost < 0 || cost > 50) {
            throw new IllegalArgumentException("what is laid costs 0 to 50");
        }
        int energyBefore = foam.energyNow(grid);
        int old = grid.changeLaid(edge, cost);
        takeInNewPrices(energyBefore);
        return old;
    }

    public int edge(int edge) throws IndexOutOfBoundsException {
        checkEdge(edge);
        return grid.price(edge);
    }

    public int apart(int node, int other) throws IndexOutOfBoundsException {
        checkNode(node);
        checkNode(other);
        return ways.cheapest(grid, node, other);
    }

    // ---- nets

    public int town(int node) throws IndexOutOfBoundsException, IllegalStateException {
        checkNode(node);
        if (nets.hasTownAt(node) || nets.isFull()) {
            throw new IllegalStateException("a town is there, or there are six");
        }
        return nets.add(node);
    }

    public int away(int town) throws IndexOutOfBoundsException {
        checkTown(town);
        return nets.remove(town);
    }

    public int townAt(int town) throws IndexOutOfBoundsException {
        checkTown(town);
        return nets.nodeOf(town);
    }

    public int least() {
        return nets.cheapest(grid);
    }

    public int leastAnew() {
        return nets.cheapestOfShapes(grid);
    }

    public int bound() {
        return nets.lowerBound(grid);
    }

    public int gap() {
        return nets.cheapest(grid) - nets.lowerBound(grid);
    }

    public boolean isUsed(int edge) throws IndexOutOfBoundsException {
        checkEdge(edge);
        return nets.isInCheapest(grid, edge);
    }

    public int twoWays(int node, int other) throws IndexOutOfBoundsException, IllegalArgumentException {
        checkNode(node);
        checkNode(other);
        if (node == other) {
            throw new IllegalArgumentException("two ways need two nodes");
        }
        return ways.cheapestPair(grid, node, other);
    }

    // ---- films

    public int pin(int node, int as) throws IndexOutOfBoundsException, IllegalArgumentException {
        checkNode(node);
        if (as < FREE || as > OUTSIDE) {
            throw new IllegalArgumentException("a node is pinned as 0 to 2");
        }
        return films.change(node, as);
    }

    public int film() {
        return films.priceOf(grid, films.smallest(grid));
    }

    public int proof() {
        return films.proved(grid);
    }

    public long side(boolean isGreatest) {
        return isGreatest ? films.greatest(grid) : films.smallest(grid);
    }

    public int costOf(long film) throws IllegalArgumentException {
        if ((film >>> NODES) != 0L) {
            throw new IllegalArgumentException("a bit is no node");
        }
        return films.isFilm(film) ? films.priceOf(grid, film) : NONE;
    }

    // ---- the foam

    public int pull(int node, int bubble) throws IndexOutOfBoundsException {
        checkNode(node);
        checkBubble(bubble);
        return foam.change(grid, node, bubble);
    }

    public boolean hold(int bubble, boolean is) throws IndexOutOfBoundsException {
        checkBubble(bubble);
        return foam.changeHeld(bubble, is);
    }

    public int breathe(int breaths) throws IllegalArgumentException {
        if (breaths < 1 || breaths > 100) {
            throw new IllegalArgumentException("breaths are 1 to 100");
        }
        return foam.letBreathe(grid, breaths);
    }

    public int bubbleAt(int node) throws IndexOutOfBoundsException {
        checkNode(node);
        return foam.ownerOf(node);
    }

    public int bubble(int bubble, int what) throws IndexOutOfBoundsException, IllegalArgumentException {
        checkBubble(bubble);
        switch (what) {
            case 0: return foam.size(bubble);
            case 1: return foam.pieces(grid, bubble);
            case 2: return foam.wallsAround(grid, bubble);
            case 3: return foam.neighbours(grid, bubble);
            case 4: return foam.isHeld(bubble) ? 1 : 0;
            default: throw new IllegalArgumentException("of a bubble 0 to 4 is told");
        }
    }

    public int wall(int bubble, int other) throws IndexOutOfBoundsException {
        checkBubble(bubble);
        checkBubble(other);
        return bubble == other ? 0 : foam.wallsBetween(grid, bubble, other);
    }

    public int corners(int kinds) throws IllegalArgumentException {
        if (kinds < 1 || kinds > 4) {
            throw new IllegalArgumentException("kinds are 1 to 4");
        }
        return foam.cornersOf(kinds);
    }

    public int rests() {
        return foam.breathsToRest(grid);
    }

    public int energy(int what) throws IllegalArgumentException {
        switch (what) {
            case 0: return foam.energyNow(grid);
            case 1: return foam.energyAtRest(grid);
            case 2: return foam.workDone();
            case 3: return foam.energyLost();
            case 4: return foam.energyNow(grid) + foam.energyLost() - foam.workDone();
            default: throw new IllegalArgumentException("of the energy 0 to 4 is told");
        }
    }

    private void takeInNewPrices(int energyBefore) {
        nets.forget();
        foam.addWork(foam.energyNow(grid) - energyBefore);
    }

    private static void checkNode(int node) {
        if (node < 0 || node >= NODES) {
            throw new IndexOutOfBoundsException("no such node");
        }
    }

    private static void checkEdge(int edge) {
        if (edge < 0 || edge >= EDGES) {
            throw new IndexOutOfBoundsException("no such edge");
        }
    }

    private void checkTown(int town) {
        if (town < 0 || town >= nets.size()) {
            throw new IndexOutOfBoundsException("no such town");
        }
    }

    private static void checkBubble(int bubble) {
        if (bubble < 0 || bubble >= BUBBLES) {
            throw new IndexOutOfBoundsException("no such bubble");
        }
    }

    /** Which nodes the edges join, and what they cost. */
    private static final class Grid {
        private final int[] low = new int[EDGES];
        private final int[] high = new int[EDGES];
        // The edges on the four sides of each node, NONE at the rim.
        private final int[] beside = new int[NODES * SIDES];
        private final int[] laid = new int[EDGES];
        private final int[] prices = new int[EDGES];
        private int across = 1;
        private int down = 1;

        Grid() {
            for (int i = 0; i < NODES * SIDES; i++) {
                beside[i] = NONE;
            }
            for (int edge = 0; edge < EDGES; edge++) {
                boolean isAcross = edge < FIRST_DOWN;
                int from = isAcross ? edge / (SPAN - 1) * SPAN + edge % (SPAN - 1) : edge - FIRST_DOWN;
                int to = from + (isAcross ? 1 : SPAN);
                low[edge] = from;
                high[edge] = to;
                beside[from * SIDES + (isAcross ? 0 : 1)] = edge;
                beside[to * SIDES + (isAcross ? 2 : 3)] = edge;
                prices[edge] = 1;
            }
        }

        int price(int edge) {
            return prices[edge];
        }

        int changeDirection(int direction, int price) {
            int old = direction == ACROSS ? across : down;
            if (direction == ACROSS) {
                across = price;
            } else {
                down = price;
            }
            for (int edge = 0; edge < EDGES; edge++) {
                prices[edge] = laid[edge] + (edge < FIRST_DOWN ? across : down);
            }
            return old;
        }

        int changeLaid(int edge, int price) {
            int old = laid[edge];
            laid[edge] = price;
            prices[edge] = price + (edge < FIRST_DOWN ? across : down);
            return old;
        }

        /** The node of an edge that has the lower number. */
        int low(int edge) {
            return low[edge];
        }

        int high(int edge) {
            return high[edge];
        }

        int otherEnd(int edge, int node) {
            return node == low[edge] ? high[edge] : low[edge];
        }

        /** The edge on a side of a node: 0 right, 1 below, 2 left, 3 above; NONE at the rim. */
        int beside(int node, int side) {
            return beside[node * SIDES + side];
        }

        /** Writes how far each node is from one, from the index start on. */
        void measure(int[] table, int start, int node) {
            for (int i = 0; i < NODES; i++) {
                table[start + i] = i == node ? 0 : FAR;
            }
            settle(table, start);
        }

        /** Lowers the 36 entries from start on, until none is above a neighbour's and the edge's price to it. */
        void settle(int[] table, int start) {
            boolean isLowered = true;
            for (int pass = 0; pass < NODES && isLowered; pass++) {
                isLowered = false;
                // To and fro, as one order alone would carry a way against it only one edge a pass.
                for (int edge = 0; edge < EDGES; edge++) {
                    isLowered |= lower(table, start, edge);
                }
                for (int edge = EDGES - 1; edge >= 0; edge--) {
                    isLowered |= lower(table, start, edge);
                }
            }
        }

        private boolean lower(int[] table, int start, int edge) {
            int from = start + low[edge];
            int to = start + high[edge];
            int price = prices[edge];
            if (table[from] + price < table[to]) {
                table[to] = table[from] + price;
                return true;
            }
            if (table[to] + price < table[from]) {
                table[from] = table[to] + price;
                return true;
            }
            return false;
        }
    }

    /** The cheapest way, and the two cheapest ways that share no edge. */
    private static final class TwoWays {
        private final int[] row = new int[NODES];
        // How the first way goes along each edge: 1 from its low node, -1 to it, 0 not at all.
        private final int[] taken = new int[EDGES];

        int cheapest(Grid grid, int node, int other) {
            grid.measure(row, 0, node);
            return row[other];
        }

        int cheapestPair(Grid grid, int node, int other) {
            int first = cheapest(grid, node, other);
            takeWayBack(grid, other);
            measureBesideTaken(grid, node);
            return first + row[other];
        }

        private void takeWayBack(Grid grid, int from) {
            for (int edge = 0; edge < EDGES; edge++) {
                taken[edge] = 0;
            }
            int node = from;
            for (int step = 0; step < NODES && row[node] > 0; step++) {
                node = stepBack(grid, node);
            }
        }

        private int stepBack(Grid grid, int node) {
            for (int side = 0; side < SIDES; side++) {
                int edge = grid.beside(node, side);
                if (edge != NONE) {
                    int before = grid.otherEnd(edge, node);
                    if (row[before] + grid.price(edge) == row[node]) {
                        taken[edge] = before < node ? 1 : -1;
                        return before;
                    }
                }
            }
            return node;
        }

        /** Measures a second way: against the first one it gives an edge of it back, along with it it may not go. */
        private void measureBesideTaken(Grid grid, int node) {
            for (int i = 0; i < NODES; i++) {
                row[i] = i == node ? 0 : FAR;
            }
            boolean isLowered = true;
            for (int pass = 0; pass < NODES && isLowered; pass++) {
                isLowered = false;
                for (int edge = 0; edge < EDGES; edge++) {
                    int low = grid.low(edge);
                    int high = grid.high(edge);
                    isLowered |= lower(grid, edge, low, high);
                    isLowered |= lower(grid, edge, high, low);
                }
            }
        }

        private boolean lower(Grid grid, int edge, int from, int to) {
            int along = from < to ? taken[edge] : -taken[edge];
            if (along > 0 || row[from] == FAR) {
                return false;
            }
            int reached = row[from] + (along < 0 ? -grid.price(edge) : grid.price(edge));
            if (reached >= row[to]) {
                return false;
            }
            row[to] = reached;
            return true;
        }
    }

    /** The towns, and the nets that join them. */
    private static final class Nets {
        private final int[] nodes = new int[MOST_TOWNS];
        private int count = 0;
        // For each set of towns (the bit n for the town n) and each node what it costs to join them all.
        private final int[] joined = new int[(1 << MOST_TOWNS) * NODES];
        private boolean isJoined = false;
        // How far each node is from each town.
        private final int[] wayTo = new int[MOST_TOWNS * NODES];
        private final int[] row = new int[NODES];
        private final int[] reach = new int[MOST_TOWNS];

        int size() {
            return count;
        }

        boolean isFull() {
            return count >= MOST_TOWNS;
        }

        int nodeOf(int town) {
            return nodes[town];
        }

        boolean hasTownAt(int node) {
            for (int town = 0; town < count; town++) {
                if (nodes[town] == node) {
                    return true;
                }
            }
            return false;
        }

        int add(int node) {
            nodes[count] = node;
            count++;
            forget();
            return count - 1;
        }

        int remove(int town) {
            int node = nodes[town];
            for (int next = town + 1; next < count; next++) {
                nodes[next - 1] = nodes[next];
            }
            count--;
            forget();
            return node;
        }

        /** To be called whenever a price or a town has changed. */
        void forget() {
            isJoined = false;
        }

        int cheapest(Grid grid) {
            if (count < 2) {
                return 0;
            }
            joinAll(grid);
            return joined[allTowns() * NODES + nodes[0]];
        }

        boolean isInCheapest(Grid grid, int edge) {
            if (count < 2) {
                return false;
            }
            joinAll(grid);
            int all = allTowns();
            int least = joined[all * NODES + nodes[0]];
            int low = grid.low(edge);
            int high = grid.high(edge);
            // Without the edge such a net is in two parts, each with a town, as no edge costs nothing.
            for (int part = 1; part < all; part++) {
                int parts = joined[part * NODES + low] + joined[(all - part) * NODES + high];
                if (parts + grid.price(edge) == least) {
                    return true;
                }
            }
            return false;
        }

        private int allTowns() {
            return (1 << count) - 1;
        }

        private void joinAll(Grid grid) {
            if (isJoined) {
                return;
            }
            for (int town = 0; town < count; town++) {
                grid.measure(joined, (1 << town) * NODES, nodes[town]);
            }
            int all = allTowns();
            for (int set = 1; set <= all; set++) {
                if (Integer.bitCount(set) > 1) {
                    joinParts(set);
                    grid.settle(joined, set * NODES);
                }
            }
            isJoined = true;
        }

        /** At each node: the cheapest two parts of a set that meet there. */
        private void joinParts(int set) {
            int start = set * NODES;
            for (int node = 0; node < NODES; node++) {
                joined[start + node] = FAR;
            }
            for (int part = 1; part < set; part++) {
                int rest = set - part;
                if ((part & set) == part && part < rest) {
                    for (int node = 0; node < NODES; node++) {
                        int both = joined[part * NODES + node] + joined[rest * NODES + node];
                        joined[start + node] = Math.min(joined[start + node], both);
                    }
                }
            }
        }

        int cheapestOfShapes(Grid grid) {
            if (count > 4) {
                return NONE;
            }
            if (count < 2) {
                return 0;
            }
            measureTowns(grid);
            int best = FAR;
            for (int node = 0; node < NODES; node++) {
                grid.measure(row, 0, node);
                for (int other = node; other < NODES; other++) {
                    best = Math.min(best, row[other] + hungOn(node, other));
                }
            }
            return best;
        }

        /** What it costs to join each town to the nearer one of two nodes. */
        private int hungOn(int node, int other) {
            int sum = 0;
            for (int town = 0; town < count; town++) {
                sum += Math.min(wayTo[town * NODES + node], wayTo[town * NODES + other]);
            }
            return sum;
        }

        int lowerBound(Grid grid) {
            if (count < 2) {
                return 0;
            }
            measureTowns(grid);
            return Math.max(halfUp(cheapestPairs()), Math.max(farthestPair(), halfUp(farthestThree())));
        }

        private static int halfUp(int sum) {
            return (sum + 1) / 2;
        }

        private void measureTowns(Grid grid) {
            for (int town = 0; town < count; town++) {
                grid.measure(wayTo, town * NODES, nodes[town]);
            }
        }

        private int between(int town, int other) {
            return wayTo[town * NODES + nodes[other]];
        }

        private int farthestPair() {
            int most = 0;
            for (int a = 0; a < count; a++) {
                for (int b = a + 1; b < count; b++) {
                    most = Math.max(most, between(a, b));
                }
            }
            return most;
        }

        private int farthestThree() {
            int most = 0;
            for (int a = 0; a < count; a++) {
                for (int b = a + 1; b < count; b++) {
                    for (int c = b + 1; c < count; c++) {
                        most = Math.max(most, between(a, b) + between(a, c) + between(b, c));
                    }
                }
            }
            return most;
        }

        /** The cost of the cheapest set of pairs by which all towns are joined. */
        private int cheapestPairs() {
            for (int town = 0; town < count; town++) {
                reach[town] = between(0, town);
            }
            int sum = 0;
            for (int step = 1; step < count; step++) {
                int next = nearestOutside();
                sum += reach[next];
                for (int town = 0; town < count; town++) {
                    reach[town] = Math.min(reach[town], between(next, town));
                }
            }
            return sum;
        }

        /** The nearest town that is not joined yet; a joined one has the reach 0, another one never. */
        private int nearestOutside() {
            int best = 0;
            for (int town = 0; town < count; town++) {
                if (reach[town] > 0 && (reach[best] == 0 || reach[town] < reach[best])) {
                    best = town;
                }
            }
            return best;
        }
    }

    /** The pins, the films that keep them apart, and the field that proves what they cost. */
    private static final class Films {
        private static final int START = -2;
        // All edges at their dearest cost 3540, and every push adds at least one to the field.
        private static final int MOST_PUSHES = 4000;

        private final int[] pinned = new int[NODES];
        // What flows along each edge, from its low node to its high one; below 0 the other way.
        private final int[] flow = new int[EDGES];
        // By which edge a search came to each node: START at its pins, NONE where it did not come.
        private final int[] cameBy = new int[NODES];
        private final int[] queue = new int[NODES];

        int change(int node, int as) {
            int old = pinned[node];
            pinned[node] = as;
            return old;
        }

        boolean isFilm(long set) {
            for (int node = 0; node < NODES; node++) {
                if (pinned[node] == (has(set, node) ? OUTSIDE : INSIDE)) {
                    return false;
                }
            }
            return true;
        }

        int priceOf(Grid grid, long set) {
            int sum = 0;
            for (int edge = 0; edge < EDGES; edge++) {
                if (has(set, grid.low(edge)) != has(set, grid.high(edge))) {
                    sum += grid.price(edge);
                }
            }
            return sum;
        }

        /** What can still be reached from the inside is in every film that costs least. */
        long smallest(Grid grid) {
            fillField(grid);
            search(grid, INSIDE);
            return reached();
        }

        /** What can still reach the outside is in no film that costs least. */
        long greatest(Grid grid) {
            fillField(grid);
            search(grid, OUTSIDE);
            return ((1L << NODES) - 1L) & ~reached();
        }

        int proved(Grid grid) {
            fillField(grid);
            int sum = 0;
            for (int edge = 0; edge < EDGES; edge++) {
                if (pinned[grid.low(edge)] == INSIDE) {
                    sum += flow[edge];
                }
                if (pinned[grid.high(edge)] == INSIDE) {
                    sum -= flow[edge];
                }
            }
            return sum;
        }

        private static boolean has(long set, int node) {
            return ((set >>> node) & 1L) != 0L;
        }

        private long reached() {
            long set = 0L;
            for (int node = 0; node < NODES; node++) {
                if (cameBy[node] != NONE) {
                    set |= 1L << node;
                }
            }
            return set;
        }

        private void fillField(Grid grid) {
            for (int edge = 0; edge < EDGES; edge++) {
                flow[edge] = 0;
            }
            boolean isPushed = true;
            for (int i = 0; i < MOST_PUSHES && isPushed; i++) {
                int end = nearestOutside(search(grid, INSIDE));
                isPushed = end != NONE;
                if (isPushed) {
                    push(grid, end, mostAlong(grid, end));
                }
            }
        }

        /** Goes from the inside with what is left of the edges, or from the outside against it; returns how many it reached. */
        private int search(Grid grid, int from) {
            int filled = 0;
            for (int node = 0; node < NODES; node++) {
                cameBy[node] = NONE;
                if (pinned[node] == from) {
                    cameBy[node] = START;
                    queue[filled] = node;
                    filled++;
                }
            }
            for (int next = 0; next < NODES && next < filled; next++) {
                filled = searchBeside(grid, from, queue[next], filled);
            }
            return filled;
        }

        private int searchBeside(Grid grid, int from, int node, int filledBefore) {
            int filled = filledBefore;
            for (int side = 0; side < SIDES; side++) {
                int edge = grid.beside(node, side);
                if (edge != NONE) {
                    int other = grid.otherEnd(edge, node);
                    int left = leftFrom(grid, edge, from == INSIDE ? node : other);
                    if (cameBy[other] == NONE && left > 0 && filled < NODES) {
                        cameBy[other] = edge;
                        queue[filled] = other;
                        filled++;
                    }
                }
            }
            return filled;
        }

        /** How much more may flow along an edge from one of its nodes. */
        private int leftFrom(Grid grid, int edge, int node) {
            return grid.price(edge) + (node == grid.low(edge) ? -flow[edge] : flow[edge]);
        }

        private int nearestOutside(int filled) {
            for (int next = 0; next < NODES && next < filled; next++) {
                if (pinned[queue[next]] == OUTSIDE) {
                    return queue[next];
                }
            }
            return NONE;
        }

        private int mostAlong(Grid grid, int end) {
            int most = FAR;
            int node = end;
            for (int step = 0; step < NODES && cameBy[node] >= 0; step++) {
                int edge = cameBy[node];
                node = grid.otherEnd(edge, node);
                most = Math.min(most, leftFrom(grid, edge, node));
            }
            return most;
        }

        private void push(Grid grid, int end, int amount) {
            int node = end;
            for (int step = 0; step < NODES && cameBy[node] >= 0; step++) {
                int edge = cameBy[node];
                node = grid.otherEnd(edge, node);
                flow[edge] += node == grid.low(edge) ? amount : -amount;
            }
        }
    }

    /** The bubbles, their walls, and their breaths. */
    private static final class Foam {
        // The energy is 3540 at most, and every breath that changes something takes at least one from it.
        private static final int MOST_BREATHS = 4000;

        private final int[] owners = new int[NODES];
        // A copy of the owners that breathes to rest, while the foam itself stays.
        private final int[] ahead = new int[NODES];
        private final boolean[] held = new boolean[BUBBLES];
        private final boolean[] seen = new boolean[NODES];
        private final int[] queue = new int[NODES];
        private int work = 0;
        private int lost = 0;

        int ownerOf(int node) {
            return owners[node];
        }

        boolean isHeld(int bubble) {
            return held[bubble];
        }

        int workDone() {
            return work;
        }

        int energyLost() {
            return lost;
        }

        void addWork(int amount) {
            work += amount;
        }

        int energyNow(Grid grid) {
            return energyOf(grid, owners);
        }

        private static int energyOf(Grid grid, int[] all) {
            int sum = 0;
            for (int edge = 0; edge < EDGES; edge++) {
                if (all[grid.low(edge)] != all[grid.high(edge)]) {
                    sum += grid.price(edge);
                }
            }
            return sum;
        }

        int change(Grid grid, int node, int bubble) {
            int energyBefore = energyNow(grid);
            int old = owners[node];
            owners[node] = bubble;
            addWork(energyNow(grid) - energyBefore);
            return old;
        }

        boolean changeHeld(int bubble, boolean is) {
            boolean old = held[bubble];
            held[bubble] = is;
            return old;
        }

        int letBreathe(Grid grid, int breaths) {
            int energyBefore = energyNow(grid);
            int moves = 0;
            boolean isMoving = true;
            for (int i = 0; i < breaths && isMoving; i++) {
                int more = breath(grid, owners);
                moves += more;
                isMoving = more > 0;
            }
            lost += energyBefore - energyNow(grid);
            return moves;
        }

        int breathsToRest(Grid grid) {
            System.arraycopy(owners, 0, ahead, 0, NODES);
            int breaths = 0;
            while (breaths < MOST_BREATHS && breath(grid, ahead) > 0) {
                breaths++;
            }
            return breaths;
        }

        int energyAtRest(Grid grid) {
            breathsToRest(grid);
            return energyOf(grid, ahead);
        }

        private int breath(Grid grid, int[] all) {
            int moves = 0;
            for (int node = 0; node < NODES; node++) {
                if (!held[all[node]]) {
                    int best = bestOwner(grid, all, node);
                    if (best != all[node]) {
                        all[node] = best;
                        moves++;
                    }
                }
            }
            return moves;
        }

        private int bestOwner(Grid grid, int[] all, int node) {
            int own = all[node];
            int best = own;
            int least = wallsWith(grid, all, node, own);
            for (int side = 0; side < SIDES; side++) {
                int edge = grid.beside(node, side);
                if (edge != NONE) {
                    int other = all[grid.otherEnd(edge, node)];
                    int walls = wallsWith(grid, all, node, other);
                    boolean isLower = walls < least || (walls == least && best != own && other < best);
                    if (isLower && !held[other]) {
                        best = other;
                        least = walls;
                    }
                }
            }
            return best;
        }

        /** What the walls of a node would cost if it belonged to a bubble. */
        private static int wallsWith(Grid grid, int[] all, int node, int bubble) {
            int sum = 0;
            for (int side = 0; side < SIDES; side++) {
                int edge = grid.beside(node, side);
                if (edge != NONE && all[grid.otherEnd(edge, node)] != bubble) {
                    sum += grid.price(edge);
                }
            }
            return sum;
        }

        int size(int bubble) {
            int nodes = 0;
            for (int node = 0; node < NODES; node++) {
                if (owners[node] == bubble) {
                    nodes++;
                }
            }
            return nodes;
        }

        int pieces(Grid grid, int bubble) {
            for (int node = 0; node < NODES; node++) {
                seen[node] = false;
            }
            int pieces = 0;
            for (int node = 0; node < NODES; node++) {
                if (owners[node] == bubble && !seen[node]) {
                    pieces++;
                    seePiece(grid, node);
                }
            }
            return pieces;
        }

        private void seePiece(Grid grid, int first) {
            seen[first] = true;
            queue[0] = first;
            int filled = 1;
            for (int next = 0; next < NODES && next < filled; next++) {
                int node = queue[next];
                for (int side = 0; side < SIDES; side++) {
                    int edge = grid.beside(node, side);
                    if (edge != NONE) {
                        int other = grid.otherEnd(edge, node);
                        if (owners[other] == owners[first] && !seen[other] && filled < NODES) {
                            seen[other] = true;
                            queue[filled] = other;
                            filled++;
                        }
                    }
                }
            }
        }

        int wallsAround(Grid grid, int bubble) {
            int sum = 0;
            for (int other = 0; other < BUBBLES; other++) {
                if (other != bubble) {
                    sum += wallsBetween(grid, bubble, other);
                }
            }
            return sum;
        }

        int wallsBetween(Grid grid, int bubble, int other) {
            int sum = 0;
            for (int edge = 0; edge < EDGES; edge++) {
                if (isBetween(grid, edge, bubble, other)) {
                    sum += grid.price(edge);
                }
            }
            return sum;
        }

        private boolean isBetween(Grid grid, int edge, int bubble, int other) {
            int low = owners[grid.low(edge)];
            int high = owners[grid.high(edge)];
            return (low == bubble && high == other) || (low == other && high == bubble);
        }

        /** With how many other bubbles a bubble has walls. */
        int neighbours(Grid grid, int bubble) {
            int met = 0;
            for (int edge = 0; edge < EDGES; edge++) {
                int low = owners[grid.low(edge)];
                int high = owners[grid.high(edge)];
                if (low == bubble) {
                    met |= 1 << high;
                }
                if (high == bubble) {
                    met |= 1 << low;
                }
            }
            return Integer.bitCount(met & ~(1 << bubble));
        }

        int cornersOf(int kinds) {
            int corners = 0;
            for (int row = 0; row < SPAN - 1; row++) {
                for (int column = 0; column < SPAN - 1; column++) {
                    if (kindsAt(row * SPAN + column) == kinds) {
                        corners++;
                    }
                }
            }
            return corners;
        }

        private int kindsAt(int node) {
            int upper = (1 << owners[node]) | (1 << owners[node + 1]);
            int lower = (1 << owners[node + SPAN]) | (1 << owners[node + SPAN + 1]);
            return Integer.bitCount(upper | lower);
        }
    }
}
