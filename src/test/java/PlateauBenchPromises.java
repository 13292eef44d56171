/** The promises 1 to 28, one after the other: ordinary calls, the edges of each, and wrong calls. */
public final class PlateauBenchPromises {
    private static final Class<IndexOutOfBoundsException> NO_SUCH = IndexOutOfBoundsException.class;
    private static final Class<IllegalArgumentException> OUT = IllegalArgumentException.class;
    private static final Class<IllegalStateException> STATE = IllegalStateException.class;
    private static final long ALL = Recipe.ALL_NODES;
    private static final int LEAST = Integer.MIN_VALUE;
    private static final int MOST = Integer.MAX_VALUE;

    private PlateauBenchPromises() {
    }

    public static void main(String[] args) {
        promise01NewObject();
        promise02Cost();
        promise03Lay();
        promise04Edge();
        promise05Apart();
        promise06Town();
        promise07Away();
        promise08TownAt();
        promise09Least();
        promise10LeastAnew();
        promise11Bound();
        promise12Gap();
        promise13IsUsed();
        promise14TwoWays();
        promise15Pin();
        promise16Film();
        promise17Proof();
        promise18Side();
        promise19CostOf();
        promise20Pull();
        promise21Hold();
        promise22Breathe();
        promise23BubbleAt();
        promise24Bubble();
        promise25Wall();
        promise26Corners();
        promise27Rests();
        promise28Energy();
        Check.end();
    }

    private static void promise01NewObject() {
        PlateauBench x = new PlateauBench();
        for (int edge = 0; edge < 60; edge++) {
            Check.due("new: edge " + edge, x.edge(edge), 1);
            Check.due("new: lay " + edge, x.lay(edge, 0), 0);
            Check.due("new: isUsed " + edge, x.isUsed(edge), false);
        }
        for (int node = 0; node < 36; node++) {
            Check.due("new: bubbleAt " + node, x.bubbleAt(node), 0);
            Check.due("new: pin " + node, x.pin(node, 0), 0);
        }
        for (int bubble = 0; bubble < 8; bubble++) {
            Check.due("new: held " + bubble, x.bubble(bubble, 4), 0);
        }
        Check.fails("new: townAt", NO_SUCH, () -> x.townAt(0));
        Check.due("new: least", x.least(), 0);
        Check.due("new: rests", x.rests(), 0);
        Check.due("new: energy 0", x.energy(0), 0);
        Check.due("new: work", x.energy(2), 0);
        Check.due("new: lost", x.energy(3), 0);
        Check.due("new: what two objects share", Recipe.withTowns(3).townAt(0) + new PlateauBench().least(), 3);
    }

    private static void promise02Cost() {
        PlateauBench x = new PlateauBench();
        x.lay(29, 7);
        Check.due("cost: the first of across", x.cost(PlateauBench.ACROSS, 9), 1);
        Check.due("cost: the first of down", x.cost(PlateauBench.DOWN, 4), 1);
        for (int edge = 0; edge < 29; edge++) {
            Check.due("cost: across " + edge, x.edge(edge), 9);
            Check.due("cost: down " + (edge + 31), x.edge(edge + 31), 4);
        }
        Check.due("cost: and what is laid", x.edge(29), 16);
        Check.due("cost: 30 is down", x.edge(30), 4);
        Check.due("cost: again", x.cost(0, 1), 9);
        Check.due("cost: the same", x.cost(1, 4), 4);
        PlateauBench y = Recipe.BUSY.make();
        for (int direction : new int[] {-1, 2, LEAST, MOST}) {
            Check.fails("cost of direction " + direction, OUT, () -> y.cost(direction, 5));
        }
        for (int cost : new int[] {0, 10, -1, LEAST, MOST}) {
            Check.fails("cost across of " + cost, OUT, () -> y.cost(0, cost));
            Check.fails("cost down of " + cost, OUT, () -> y.cost(1, cost));
        }
    }

    private static void promise03Lay() {
        PlateauBench x = new PlateauBench();
        Check.due("lay: the first", x.lay(0, 50), 0);
        Check.due("lay: in place of it", x.lay(0, 3), 50);
        Check.due("lay: not on top of it", x.edge(0), 4);
        Check.due("lay: the last edge", x.lay(59, 1), 0);
        Check.due("lay: the last edge costs", x.edge(59), 2);
        Check.due("lay: nothing again", x.lay(0, 0), 3);
        Check.due("lay: the bare edge", x.edge(0), 1);
        Check.due("lay: beside it", x.edge(1), 1);
        PlateauBench y = Recipe.BUSY.make();
        for (int edge : new int[] {-1, 60, LEAST, MOST}) {
            Check.fails("lay on " + edge, NO_SUCH, () -> y.lay(edge, 5));
            Check.fails("lay too much on " + edge, NO_SUCH, () -> y.lay(edge, 51));
        }
        for (int cost : new int[] {-1, 51, LEAST, MOST}) {
            Check.fails("lay " + cost, OUT, () -> y.lay(7, cost));
        }
    }

    private static void promise04Edge() {
        PlateauBench x = new PlateauBench();
        x.cost(0, 9);
        x.cost(1, 2);
        x.lay(29, 50);
        x.lay(30, 50);
        Check.due("edge: the last across", x.edge(29), 59);
        Check.due("edge: the first down", x.edge(30), 52);
        Check.due("edge: the last", x.edge(59), 2);
        for (int edge : new int[] {-1, 60, LEAST, MOST}) {
            Check.fails("edge " + edge, NO_SUCH, () -> x.edge(edge));
        }
    }

    private static void promise05Apart() {
        PlateauBench x = new PlateauBench();
        Check.due("apart: one and itself", x.apart(17, 17), 0);
        Check.due("apart: corners", x.apart(0, 35), 10);
        Check.due("apart: the other corners", x.apart(30, 5), 10);
        Check.due("apart: the end of a row and the next one's start", x.apart(5, 6), 6);
        x.cost(0, 2);
        x.cost(1, 3);
        Check.due("apart: with directions", x.apart(0, 35), 25);
        x.lay(0, 50);
        Check.due("apart: round a dear edge", x.apart(0, 1), 8);
        Check.due("apart: back", x.apart(1, 0), 8);
        x.lay(30, 50);
        Check.due("apart: out of a dear corner", x.apart(0, 7), 55);
        for (int node : new int[] {-1, 36, LEAST, MOST}) {
            Check.fails("apart from " + node, NO_SUCH, () -> x.apart(node, 0));
            Check.fails("apart to " + node, NO_SUCH, () -> x.apart(0, node));
        }
    }

    private static void promise06Town() {
        PlateauBench x = new PlateauBench();
        int[] nodes = {0, 35, 7, 14, 21, 28};
        for (int i = 0; i < 6; i++) {
            Check.due("town: number " + i, x.town(nodes[i]), i);
            int node = nodes[i];
            Check.fails("town: again at " + node, STATE, () -> x.town(node));
            Check.fails("town: at -1", NO_SUCH, () -> x.town(-1));
        }
        Check.fails("town: a seventh one", STATE, () -> x.town(1));
        for (int node : new int[] {-1, 36, LEAST, MOST}) {
            Check.fails("town: a seventh one at " + node, NO_SUCH, () -> x.town(node));
        }
        x.away(2);
        Check.due("town: the sixth one again", x.town(7), 5);
    }

    private static void promise07Away() {
        PlateauBench x = Recipe.withTowns(3, 9, 27, 30);
        Check.due("away: one in the middle", x.away(1), 9);
        Check.due("away: before it", x.townAt(0), 3);
        Check.due("away: behind it", x.townAt(1), 27);
        Check.due("away: the last", x.townAt(2), 30);
        Check.fails("away: the number that is gone", NO_SUCH, () -> x.away(3));
        Check.fails("away: -1", NO_SUCH, () -> x.away(-1));
        Check.fails("away: far below", NO_SUCH, () -> x.away(LEAST));
        Check.fails("away: far above", NO_SUCH, () -> x.away(MOST));
        Check.due("away: the least net before", x.least(), 3 + 5);
        Check.due("away: the last one", x.away(2), 30);
        Check.due("away: the least net behind", x.least(), 4);
        Check.due("away: the first one", x.away(0), 3);
        Check.due("away: that behind it", x.away(0), 27);
        Check.fails("away: none left", NO_SUCH, () -> x.away(0));
        Check.due("away: its node is free", x.town(9), 0);
    }

    private static void promise08TownAt() {
        PlateauBench x = Recipe.withTowns(35, 0, 17);
        Check.due("townAt 0", x.townAt(0), 35);
        Check.due("townAt 1", x.townAt(1), 0);
        Check.due("townAt 2", x.townAt(2), 17);
        for (int town : new int[] {-1, 3, 6, LEAST, MOST}) {
            Check.fails("townAt " + town, NO_SUCH, () -> x.townAt(town));
        }
    }

    private static void promise09Least() {
        Check.due("least: one town", Recipe.withTowns(8).least(), 0);
        Check.due("least: two towns", Recipe.withTowns(8, 28).least(), 5);
        Check.due("least: three corners", Recipe.withTowns(0, 5, 35).least(), 10);
        Check.due("least: a cross", Recipe.withTowns(2, 12, 17, 32).least(), 10);
        Check.due("least: four corners", Recipe.withTowns(0, 5, 30, 35).least(), 15);
        Check.due("least: a column", Recipe.withTowns(0, 30, 12, 24, 18, 6).least(), 5);
        Check.due("least: six round the rim", Recipe.withTowns(0, 5, 30, 35, 2, 33).least(), 15);
        PlateauBench x = Recipe.withTowns(0, 5, 30, 35);
        x.lay(3, 50);
        Check.due("least: round what is laid", x.least(), 15);
        x.cost(0, 9);
        Check.due("least: a bar only once", x.least(), 10 + 45);
        x.lay(32, 50);
        x.away(3);
        Check.due("least: without the last", x.least(), 5 + 45 + 1);
    }

    private static void promise10LeastAnew() {
        Check.due("leastAnew: none", new PlateauBench().leastAnew(), 0);
        Check.due("leastAnew: one town", Recipe.withTowns(8).leastAnew(), 0);
        Check.due("leastAnew: two towns", Recipe.withTowns(8, 28).leastAnew(), 5);
        Check.due("leastAnew: three corners", Recipe.withTowns(0, 5, 35).leastAnew(), 10);
        Check.due("leastAnew: a cross", Recipe.withTowns(2, 12, 17, 32).leastAnew(), 10);
        PlateauBench x = Recipe.withTowns(0, 5, 30, 35);
        Check.due("leastAnew: four corners", x.leastAnew(), 15);
        x.town(14);
        Check.due("leastAnew: five towns", x.leastAnew(), PlateauBench.NONE);
        x.town(15);
        Check.due("leastAnew: six towns", x.leastAnew(), PlateauBench.NONE);
        x.away(5);
        x.away(4);
        Check.due("leastAnew: four again", x.leastAnew(), 15);
        x.cost(1, 9);
        Check.due("leastAnew: a bar down only once", x.leastAnew(), 55);
        Check.due("leastAnew: as the other one", x.least(), 55);
    }

    private static void promise11Bound() {
        Check.due("bound: none", new PlateauBench().bound(), 0);
        Check.due("bound: one town", Recipe.withTowns(8).bound(), 0);
        Check.due("bound: two towns", Recipe.withTowns(0, 35).bound(), 10);
        Check.due("bound: three towns", Recipe.withTowns(2, 12, 17).bound(), 7);
        Check.due("bound: four corners", Recipe.withTowns(0, 5, 30, 35).bound(), 10);
        PlateauBench x = Recipe.withTowns(0, 1, 7);
        x.lay(0, 1);
        Check.due("bound: half of five", x.bound(), 3);
        PlateauBench y = Recipe.withTowns(0, 5, 30, 35, 14, 21);
        for (int edge : new int[] {0, 30, 4, 35, 25, 54, 29, 59, 11, 12, 38, 44, 17, 18, 45, 51}) {
            y.lay(edge, 50);
        }
        Check.due("bound: half of all pairs", y.bound(), 260);
        y.lay(4, 47);
        y.lay(35, 47);
        Check.due("bound: half of an odd sum, 513", y.bound(), 257);
        y.lay(4, 48);
        y.lay(35, 48);
        Check.due("bound: half of an even one, 516", y.bound(), 258);
        PlateauBench z = Recipe.withTowns(0, 35, 1);
        z.lay(0, 50);
        Check.due("bound: the farthest two", z.bound(), 10 + 1);
    }

    private static void promise12Gap() {
        Check.due("gap: none", new PlateauBench().gap(), 0);
        Check.due("gap: two towns", Recipe.withTowns(0, 35).gap(), 0);
        Check.due("gap: a cross", Recipe.withTowns(2, 12, 17, 32).gap(), 10 - 8);
        PlateauBench x = Recipe.withTowns(0, 5, 30, 35);
        Check.due("gap: four corners", x.gap(), 5);
        x.cost(0, 2);
        x.cost(1, 3);
        Check.due("gap: four corners with directions", x.gap(), 10);
    }

    private static void promise13IsUsed() {
        PlateauBench x = Recipe.withTowns(0, 7);
        for (int edge = 0; edge < 60; edge++) {
            boolean is = edge == 0 || edge == 31 || edge == 30 || edge == 5;
            Check.due("isUsed: both ways, " + edge, x.isUsed(edge), is);
        }
        x.lay(5, 1);
        for (int edge = 0; edge < 60; edge++) {
            Check.due("isUsed: one way, " + edge, x.isUsed(edge), edge == 0 || edge == 31);
        }
        x.away(0);
        for (int edge = 0; edge < 60; edge++) {
            Check.due("isUsed: one town, " + edge, x.isUsed(edge), false);
        }
        PlateauBench y = Recipe.withTowns(2, 12, 17, 32);
        y.cost(0, 2);
        for (int edge = 0; edge < 60; edge++) {
            boolean isBar = edge >= 10 && edge < 15;
            boolean isPost = edge >= 30 && (edge - 30) % 6 == 2;
            Check.due("isUsed: a cross, " + edge, y.isUsed(edge), isBar || isPost);
        }
        for (int edge : new int[] {-1, 60, LEAST, MOST}) {
            Check.fails("isUsed " + edge, NO_SUCH, () -> y.isUsed(edge));
        }
    }

    private static void promise14TwoWays() {
        PlateauBench x = new PlateauBench();
        Check.due("twoWays: beside", x.twoWays(0, 1), 4);
        Check.due("twoWays: corners", x.twoWays(0, 35), 20);
        Check.due("twoWays: in a row", x.twoWays(8, 10), 6);
        Check.due("twoWays: in the rim", x.twoWays(2, 4), 6);
        Check.due("twoWays: back", x.twoWays(4, 2), 6);
        x.lay(0, 50);
        Check.due("twoWays: a corner's dear edge", x.twoWays(0, 7), 54);
        PlateauBench y = new PlateauBench();
        for (int edge = 0; edge < 60; edge++) {
            y.lay(edge, 50);
        }
        // A cheap way straight on that both of the two have to leave.
        for (int edge : new int[] {5, 6, 7, 30, 0, 1, 32, 37, 11, 12, 39}) {
            y.lay(edge, 0);
        }
        Check.due("twoWays: the straight way", y.apart(6, 9), 3);
        Check.due("twoWays: without the straight way", y.twoWays(6, 9), 10);
        Check.due("twoWays: and back", y.twoWays(9, 6), 10);
        Check.fails("twoWays: the same", OUT, () -> y.twoWays(6, 6));
        for (int node : new int[] {-1, 36, LEAST, MOST}) {
            Check.fails("twoWays from " + node, NO_SUCH, () -> y.twoWays(node, 0));
            Check.fails("twoWays to " + node, NO_SUCH, () -> y.twoWays(0, node));
            Check.fails("twoWays from and to " + node, NO_SUCH, () -> y.twoWays(node, node));
        }
    }

    private static void promise15Pin() {
        PlateauBench x = new PlateauBench();
        Check.due("pin: free before", x.pin(35, PlateauBench.INSIDE), 0);
        Check.due("pin: inside before", x.pin(35, PlateauBench.OUTSIDE), 1);
        Check.due("pin: outside before", x.pin(35, PlateauBench.OUTSIDE), 2);
        Check.due("pin: no film with it", x.costOf(ALL), -1);
        Check.due("pin: freed", x.pin(35, PlateauBench.FREE), 2);
        Check.due("pin: a film with it", x.costOf(ALL), 0);
        Check.due("pin: the first node", x.pin(0, 1), 0);
        PlateauBench y = Recipe.BUSY.make();
        for (int node : new int[] {-1, 36, LEAST, MOST}) {
            Check.fails("pin " + node, NO_SUCH, () -> y.pin(node, 1));
            Check.fails("pin wrongly " + node, NO_SUCH, () -> y.pin(node, 3));
        }
        for (int as : new int[] {-1, 3, LEAST, MOST}) {
            Check.fails("pin as " + as, OUT, () -> y.pin(1, as));
        }
    }

    private static void promise16Film() {
        PlateauBench none = new PlateauBench();
        Check.due("film: no pins", none.film(), 0);
        none.pin(3, 2);
        Check.due("film: outside alone", none.film(), 0);
        none.pin(3, 1);
        Check.due("film: inside alone", none.film(), 0);
        Check.due("film: a corner", Recipe.pinned(0, 35).film(), 2);
        Check.due("film: in the middle", Recipe.pinned(14, 21).film(), 4);
        PlateauBench x = Recipe.pinned(14, 15);
        Check.due("film: beside", x.film(), 4);
        x.lay(12, 30);
        Check.due("film: a dear edge between them", x.film(), 31 + 3);
        x.pin(14, 0);
        Check.due("film: freed", x.film(), 0);
        PlateauBench y = Recipe.pinned(0, 5);
        y.pin(30, 1);
        y.pin(35, 2);
        Check.due("film: two corners each", y.film(), 4);
        y.cost(0, 9);
        y.cost(1, 8);
        Check.due("film: dearer", y.film(), 2 * 17);
    }

    private static void promise17Proof() {
        PlateauBench x = new PlateauBench();
        Check.due("proof: no pins", x.proof(), 0);
        x.pin(0, 1);
        Check.due("proof: inside alone", x.proof(), 0);
        x.pin(1, 2);
        Check.due("proof: a corner", x.proof(), 2);
        x.pin(0, 0);
        Check.due("proof: outside alone", x.proof(), 0);
        PlateauBench y = Recipe.pinned(14, 15);
        y.pin(13, 1);
        Check.due("proof: two inside", y.proof(), 4);
        y.lay(12, 5);
        Check.due("proof: straight through a dear edge", y.proof(), 9);
        y.pin(20, 2);
        Check.due("proof: two outside", y.proof(), y.film());
        for (int node = 0; node < 36; node++) {
            y.pin(node, node % 2 == node / 6 % 2 ? 1 : 2);
        }
        Check.due("proof: none free", y.proof(), 65);
    }

    private static void promise18Side() {
        PlateauBench x = new PlateauBench();
        Check.due("side: the smallest, no pins", x.side(false), 0L);
        Check.due("side: the greatest, no pins", x.side(true), ALL);
        x.pin(8, 2);
        Check.due("side: the smallest, outside alone", x.side(false), 0L);
        Check.due("side: the greatest, outside alone", x.side(true), 0L);
        x.pin(8, 1);
        Check.due("side: the smallest, inside alone", x.side(false), ALL);
        Check.due("side: the greatest, inside alone", x.side(true), ALL);
        PlateauBench y = Recipe.pinned(0, 35);
        Check.due("side: the smallest, corners", y.side(false), 1L);
        Check.due("side: the greatest, corners", y.side(true), ALL - (1L << 35));
        y.lay(0, 1);
        Check.due("side: the smallest, one corner left", y.side(false), ALL - (1L << 35));
        y.lay(0, 0);
        y.lay(29, 1);
        Check.due("side: the greatest, the other corner left", y.side(true), 1L);
        Check.due("side: it is a film that costs least", y.costOf(y.side(true)), y.film());
    }

    private static void promise19CostOf() {
        PlateauBench x = Recipe.pinned(0, 35);
        Check.due("costOf: the corner", x.costOf(1L), 2);
        Check.due("costOf: all but the other one", x.costOf(ALL - (1L << 35)), 2);
        Check.due("costOf: one more in the middle", x.costOf(1L | 1L << 14), 6);
        Check.due("costOf: not all inside", x.costOf(1L << 14), -1);
        Check.due("costOf: one outside", x.costOf(1L | 1L << 35), -1);
        Check.due("costOf: nothing", x.costOf(0L), -1);
        x.cost(0, 7);
        x.lay(30, 20);
        Check.due("costOf: dearer", x.costOf(1L), 28);
        x.pin(0, 0);
        Check.due("costOf: nothing, with none inside", x.costOf(0L), 0);
        for (long film : new long[] {1L << 36, 1L | 1L << 36, 1L << 62, -1L, Long.MIN_VALUE, Long.MAX_VALUE, ALL + 1}) {
            Check.fails("costOf " + film, OUT, () -> x.costOf(film));
        }
    }

    private static void promise20Pull() {
        PlateauBench x = new PlateauBench();
        Check.due("pull: of the first", x.pull(0, 7), 0);
        Check.due("pull: of it again", x.pull(0, 3), 7);
        Check.due("pull: to its own", x.pull(0, 3), 3);
        Check.due("pull: the last", x.pull(35, 1), 0);
        x.hold(3, true);
        x.hold(1, true);
        Check.due("pull: of a held one", x.pull(0, 1), 3);
        Check.due("pull: to a held one", x.bubbleAt(0), 1);
        PlateauBench y = Recipe.BUSY.make();
        for (int wrong : new int[] {-1, 36, LEAST, MOST}) {
            Check.fails("pull " + wrong, NO_SUCH, () -> y.pull(wrong, 0));
        }
        for (int wrong : new int[] {-1, 8, LEAST, MOST}) {
            Check.fails("pull to " + wrong, NO_SUCH, () -> y.pull(0, wrong));
        }
    }

    private static void promise21Hold() {
        PlateauBench x = new PlateauBench();
        Check.due("hold: not before", x.hold(7, true), false);
        Check.due("hold: before", x.hold(7, true), true);
        Check.due("hold: told", x.bubble(7, 4), 1);
        Check.due("hold: let go", x.hold(7, false), true);
        Check.due("hold: not any more", x.hold(7, false), false);
        x.hold(0, true);
        x.pull(14, 1);
        Check.due("hold: nothing to go to", x.breathe(1), 0);
        x.hold(0, false);
        x.hold(1, true);
        Check.due("hold: it stays", x.breathe(1), 0);
        x.hold(1, false);
        Check.due("hold: it goes", x.breathe(1), 1);
        PlateauBench y = Recipe.BUSY.make();
        for (int wrong : new int[] {-1, 8, LEAST, MOST}) {
            Check.fails("hold " + wrong, NO_SUCH, () -> y.hold(wrong, true));
            Check.fails("let go " + wrong, NO_SUCH, () -> y.hold(wrong, false));
        }
    }

    /** The corner 0 of bubble 7 between the bubbles of the nodes 1 and 6. */
    private static PlateauBench corner(int right, int below) {
        PlateauBench x = new PlateauBench();
        x.pull(0, 7);
        x.pull(1, right);
        x.pull(6, below);
        return x;
    }

    private static int cornerBehindABreath(PlateauBench x) {
        x.breathe(1);
        return x.bubbleAt(0);
    }

    private static void promise22Breathe() {
        Check.due("breathe: to the lowest, below", cornerBehindABreath(corner(5, 3)), 3);
        Check.due("breathe: to the lowest, beside", cornerBehindABreath(corner(3, 5)), 3);
        Check.due("breathe: no cheaper, it stays", cornerBehindABreath(corner(7, 3)), 7);
        PlateauBench dear = corner(5, 3);
        dear.lay(0, 1);
        Check.due("breathe: to the cheapest", cornerBehindABreath(dear), 5);
        PlateauBench held = corner(5, 3);
        held.lay(0, 1);
        held.hold(5, true);
        Check.due("breathe: but not to a held one", cornerBehindABreath(held), 3);
        PlateauBench own = corner(5, 3);
        own.hold(7, true);
        Check.due("breathe: out of no held one", cornerBehindABreath(own), 7);
        // The walls to the held bubble 5 cost the same for both others, and keep neither.
        PlateauBench walls = corner(5, 7);
        walls.hold(5, true);
        walls.lay(0, 50);
        Check.due("breathe: a held neighbour's wall counts", cornerBehindABreath(walls), 7);
        PlateauBench x = new PlateauBench();
        Recipe.spike(x);
        Check.due("breathe: the spike, once", x.breathe(1), 1);
        Check.due("breathe: its tip", x.bubbleAt(16), 0);
        Check.due("breathe: behind its tip", x.bubbleAt(15), 1);
        Check.due("breathe: the rest of it", x.breathe(100), 2);
        Check.due("breathe: at rest", x.breathe(100), 0);
        // Against the spike: here each node sees what the one before it has done.
        PlateauBench row = new PlateauBench();
        for (int node = 12; node < 18; node++) {
            row.pull(node, 1);
        }
        Check.due("breathe: a row at once", row.breathe(1), 6);
        PlateauBench y = Recipe.BUSY.make();
        for (int breaths : new int[] {0, 101, -1, LEAST, MOST}) {
            Check.fails("breathe " + breaths, OUT, () -> y.breathe(breaths));
        }
    }

    private static void promise23BubbleAt() {
        PlateauBench x = new PlateauBench();
        x.pull(0, 7);
        x.pull(35, 2);
        Check.due("bubbleAt 0", x.bubbleAt(0), 7);
        Check.due("bubbleAt 1", x.bubbleAt(1), 0);
        Check.due("bubbleAt 35", x.bubbleAt(35), 2);
        for (int node : new int[] {-1, 36, LEAST, MOST}) {
            Check.fails("bubbleAt " + node, NO_SUCH, () -> x.bubbleAt(node));
        }
    }

    private static void tells(PlateauBench x, int bubble, int... due) {
        for (int what = 0; what < 5; what++) {
            Check.due("bubble " + bubble + ", " + what, x.bubble(bubble, what), due[what]);
        }
    }

    private static void promise24Bubble() {
        PlateauBench x = new PlateauBench();
        tells(x, 0, 36, 1, 0, 0, 0);
        tells(x, 7, 0, 0, 0, 0, 0);
        x.pull(0, 1);
        x.pull(7, 1);
        x.pull(35, 1);
        x.pull(34, 2);
        x.pull(5, 7);
        x.pull(6, 7);
        x.hold(1, true);
        x.hold(2, true);
        tells(x, 1, 3, 3, 2 + 4 + 2, 3, 1);
        tells(x, 2, 1, 1, 3, 2, 1);
        tells(x, 7, 2, 2, 5, 2, 0);
        tells(x, 0, 30, 1, 10, 3, 0);
        x.cost(1, 4);
        x.lay(29, 6);
        tells(x, 1, 3, 3, 5 + 10 + 11, 3, 1);
        for (int wrong : new int[] {-1, 8, LEAST, MOST}) {
            Check.fails("bubble " + wrong, NO_SUCH, () -> x.bubble(wrong, 0));
            Check.fails("of the bubble " + wrong + " nothing there is", NO_SUCH, () -> x.bubble(wrong, 5));
        }
        for (int wrong : new int[] {-1, 5, LEAST, MOST}) {
            Check.fails("of a bubble " + wrong, OUT, () -> x.bubble(0, wrong));
        }
    }

    private static void promise25Wall() {
        PlateauBench x = new PlateauBench();
        x.pull(14, 1);
        x.pull(15, 2);
        x.cost(0, 3);
        x.lay(12, 10);
        Check.due("wall: between", x.wall(1, 2), 13);
        Check.due("wall: the other way", x.wall(2, 1), 13);
        Check.due("wall: to the rest", x.wall(1, 0), 5);
        Check.due("wall: none", x.wall(1, 7), 0);
        Check.due("wall: itself", x.wall(1, 1), 0);
        Check.due("wall: the rest itself", x.wall(0, 0), 0);
        for (int wrong : new int[] {-1, 8, LEAST, MOST}) {
            Check.fails("wall of " + wrong, NO_SUCH, () -> x.wall(wrong, 0));
            Check.fails("wall to " + wrong, NO_SUCH, () -> x.wall(0, wrong));
            Check.fails("wall between " + wrong, NO_SUCH, () -> x.wall(wrong, wrong));
        }
    }

    private static void kinds(PlateauBench x, int... due) {
        for (int kinds = 1; kinds < 5; kinds++) {
            Check.due("corners of " + kinds, x.corners(kinds), due[kinds - 1]);
        }
    }

    private static void promise26Corners() {
        PlateauBench x = new PlateauBench();
        kinds(x, 25, 0, 0, 0);
        x.pull(0, 1);
        kinds(x, 24, 1, 0, 0);
        x.pull(14, 1);
        kinds(x, 20, 5, 0, 0);
        x.pull(15, 2);
        kinds(x, 18, 5, 2, 0);
        x.pull(20, 3);
        kinds(x, 16, 6, 2, 1);
        x.pull(21, 1);
        kinds(x, 15, 5, 5, 0);
        for (int wrong : new int[] {-1, 0, 5, LEAST, MOST}) {
            Check.fails("corners of " + wrong, OUT, () -> x.corners(wrong));
        }
    }

    private static void promise27Rests() {
        PlateauBench x = new PlateauBench();
        Recipe.spike(x);
        Check.due("rests: the spike", x.rests(), 3);
        Check.due("rests: it has not moved", x.bubbleAt(16), 1);
        x.breathe(1);
        Check.due("rests: behind one breath", x.rests(), 2);
        x.breathe(2);
        Check.due("rests: at rest", x.rests(), 0);
        x.pull(35, 4);
        Check.due("rests: stirred", x.rests(), 1);
        x.hold(4, true);
        Check.due("rests: held", x.rests(), 0);
    }

    private static void promise28Energy() {
        PlateauBench x = new PlateauBench();
        Recipe.spike(x);
        energies(x, 12, 6, 12, 0);
        x.breathe(2);
        energies(x, 8, 6, 12, 4);
        x.cost(1, 3);
        energies(x, 3 * 6 + 2, 14, 24, 4);
        // On an edge within the bubble: no work, but the spike's last node does not gain by going any more.
        x.lay(11, 6);
        energies(x, 20, 20, 24, 4);
        x.lay(11, 0);
        energies(x, 20, 14, 24, 4);
        x.lay(12, 5);
        energies(x, 25, 14, 29, 4);
        x.breathe(1);
        energies(x, 14, 14, 29, 15);
        x.cost(1, 1);
        energies(x, 6, 6, 21, 15);
        for (int node = 0; node < 36; node++) {
            x.pull(node, 5);
        }
        energies(x, 0, 0, 15, 15);
        for (int wrong : new int[] {-1, 5, LEAST, MOST}) {
            Check.fails("of the energy " + wrong, OUT, () -> x.energy(wrong));
        }
    }

    private static void energies(PlateauBench x, int now, int atRest, int work, int lost) {
        Check.due("energy", x.energy(0), now);
        Check.due("energy at rest", x.energy(1), atRest);
        Check.due("work", x.energy(2), work);
        Check.due("lost", x.energy(3), lost);
        Check.due("energy and lost less work", x.energy(4), 0);
    }
}
