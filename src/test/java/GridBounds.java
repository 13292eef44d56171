/** A new object, and where the grid's numbers end. */
final class GridBounds {
    private static final long ALL = Recipe.ALL_NODES;

    private GridBounds() {
    }

    static void all() {
        newObject();
        newObjectsShareNothing();
        constants();
        nodesLieInRowsOfSix();
        rowsDoNotRunOn();
        edgesLieBetweenTheirNodes();
        edgesCostBothParts();
        edgesAtTheirCheapest();
        edgesAtTheirDearest();
        directions();
        directionsCost();
        laidOnEdges();
        laidInPlace();
        edgeEnds();
        apartFromItself();
        apartEnds();
        apartByTheLongestWay();
        apartBySomeWayRound();
    }

    private static void newObject() {
        Check.says(1, "The grid alone.");
        PlateauBench x = new PlateauBench();
        for (int edge = 0; edge < 60; edge++) {
            Check.due("what edge " + edge + " costs", x.edge(edge), 1);
            Check.due("whether edge " + edge + " is used", x.isUsed(edge), false);
            Check.due("what lies on edge " + edge, x.lay(edge, 0), 0);
        }
        for (int node = 0; node < 36; node++) {
            Check.due("the bubble of node " + node, x.bubbleAt(node), 0);
            Check.due("the pin of node " + node, x.pin(node, 0), 0);
        }
        Check.fails("a town", IndexOutOfBoundsException.class, () -> x.townAt(0));
        Check.due("least, bound, gap", x.least() + x.leastAnew() + x.bound() + x.gap(), 0);
        Check.due("film, proof", x.film() + x.proof(), 0);
        Check.due("rests", x.rests(), 0);
        for (int what = 0; what < 5; what++) {
            Check.due("energy " + what, x.energy(what), 0);
        }
        for (int bubble = 0; bubble < 8; bubble++) {
            Check.due("held " + bubble, x.hold(bubble, false), false);
        }
    }

    private static void newObjectsShareNothing() {
        Check.says(1, "The grid alone.");
        String before = State.of(new PlateauBench());
        PlateauBench full = Recipe.FULL.make();
        PlateauBench other = new PlateauBench();
        Check.due("one beside a full one", State.of(other), before);
        Check.due("the full one beside it", State.of(full), State.of(Recipe.FULL.make()));
    }

    private static void constants() {
        Check.says("The foam", "The constants: `NONE = -1`");
        Check.due("NONE", PlateauBench.NONE, -1);
        Check.says("The foam", "`ACROSS = 0, DOWN = 1`");
        Check.due("ACROSS", PlateauBench.ACROSS, 0);
        Check.due("DOWN", PlateauBench.DOWN, 1);
        Check.says("The foam", "`FREE = 0, INSIDE = 1, OUTSIDE = 2`");
        Check.due("FREE", PlateauBench.FREE, 0);
        Check.due("INSIDE", PlateauBench.INSIDE, 1);
        Check.due("OUTSIDE", PlateauBench.OUTSIDE, 2);
    }

    private static void nodesLieInRowsOfSix() {
        Check.says("The grid", "There are 36 NODES, 0 to 35, in six rows");
        for (int from = 0; from < 36; from++) {
            PlateauBench x = new PlateauBench();
            x.cost(0, 2);
            x.cost(1, 9);
            for (int to = 0; to < 36; to++) {
                int due = 9 * Math.abs(from / 6 - to / 6) + 2 * Math.abs(from % 6 - to % 6);
                Check.due("from " + from + " to " + to, x.apart(from, to), due);
            }
        }
    }

    private static void rowsDoNotRunOn() {
        Check.says("The grid", "There are 36 NODES, 0 to 35, in six rows");
        PlateauBench x = new PlateauBench();
        for (int row = 0; row < 5; row++) {
            int last = 6 * row + 5;
            Check.due("from the end of row " + row + " to the next one's start", x.apart(last, last + 1), 6);
            Check.due("from the bottom of column " + row + " to the next one's top", x.apart(30 + row, row + 1), 6);
        }
        Check.due("from the last node to the first", x.apart(35, 0), 10);
        Check.due("two ways from the end of a row to the next one's start", x.twoWays(5, 6), 12);
        for (int node = 0; node < 36; node++) {
            int beside = 4 - (node % 6 % 5 == 0 ? 1 : 0) - (node / 6 % 5 == 0 ? 1 : 0);
            Check.due("how many edges node " + node + " has", x.costOf(Recipe.bit(node)), beside);
        }
    }

    private static int lowNode(int edge) {
        return edge < 30 ? 6 * (edge / 5) + edge % 5 : edge - 30;
    }

    private static int highNode(int edge) {
        return lowNode(edge) + (edge < 30 ? 1 : 6);
    }

    private static void edgesLieBetweenTheirNodes() {
        Check.says("The grid", "There are 60 EDGES: 5 times r, and c, together");
        for (int edge = 0; edge < 60; edge++) {
            PlateauBench x = new PlateauBench();
            x.lay(edge, 50);
            for (int node = 0; node < 36; node++) {
                int beside = 4 - (node % 6 % 5 == 0 ? 1 : 0) - (node / 6 % 5 == 0 ? 1 : 0);
                boolean isEnd = node == lowNode(edge) || node == highNode(edge);
                Check.due("edge " + edge + " at node " + node, x.costOf(Recipe.bit(node)), beside + (isEnd ? 50 : 0));
            }
            x.pull(lowNode(edge), 1);
            x.pull(highNode(edge), 2);
            Check.due("edge " + edge + " as a wall", x.wall(1, 2), 51);
        }
    }

    private static void edgesCostBothParts() {
        Check.says("The grid", "An EDGE costs what its direction costs, 1 to 9, 1 at first for both, and what lies on it");
        PlateauBench x = new PlateauBench();
        x.cost(0, 9);
        x.cost(1, 2);
        x.lay(0, 50);
        x.lay(29, 1);
        x.lay(30, 50);
        x.lay(59, 1);
        Check.due("the first across", x.edge(0), 59);
        Check.due("the last across", x.edge(29), 10);
        Check.due("the first down", x.edge(30), 52);
        Check.due("the last down", x.edge(59), 3);
        for (int edge = 1; edge < 29; edge++) {
            Check.due("across, " + edge, x.edge(edge), 9);
            Check.due("down, " + (edge + 30), x.edge(edge + 30), 2);
        }
    }

    private static void edgesAtTheirCheapest() {
        Check.says("The grid", "An EDGE costs what its direction costs, 1 to 9, 1 at first for both, and what lies on it");
        PlateauBench x = Recipe.dearest(new PlateauBench());
        for (int edge = 0; edge < 60; edge++) {
            x.lay(edge, 0);
        }
        Check.due("across before", x.cost(0, 1), 9);
        Check.due("down before", x.cost(1, 1), 9);
        for (int edge = 0; edge < 60; edge++) {
            Check.due("edge " + edge, x.edge(edge), 1);
        }
        Check.due("the corners apart", x.apart(0, 35), 10);
    }

    private static void edgesAtTheirDearest() {
        Check.says("The grid", "An EDGE costs what its direction costs, 1 to 9, 1 at first for both, and what lies on it");
        PlateauBench x = Recipe.dearest(new PlateauBench());
        for (int edge = 0; edge < 60; edge++) {
            Check.due("edge " + edge, x.edge(edge), 59);
        }
        Check.due("the corners apart", x.apart(0, 35), 10 * 59);
        long whites = 0L;
        for (int node = 0; node < 36; node++) {
            whites |= Recipe.isWhite(node) ? Recipe.bit(node) : 0L;
        }
        Check.due("all edges", x.costOf(whites), 60 * 59);
        Check.due("all edges from the other side", x.costOf(ALL & ~whites), 60 * 59);
    }

    private static void directions() {
        Check.says(2, "`direction`: ACROSS or DOWN");
        PlateauBench x = new PlateauBench();
        x.cost(PlateauBench.ACROSS, 7);
        Check.due("across alone", x.edge(29) + " " + x.edge(30), "7 1");
        x.cost(PlateauBench.DOWN, 3);
        Check.due("both", x.edge(29) + " " + x.edge(30), "7 3");
        x.cost(PlateauBench.ACROSS, 1);
        Check.due("down alone", x.edge(29) + " " + x.edge(30), "1 3");
        Check.says(2, "Tells what a direction costs.");
        Check.due("at all edges across", x.costOf(bits(0, 6, 12, 18, 24, 30)), 6);
        Check.due("at all edges down", x.costOf(bits(0, 1, 2, 3, 4, 5)), 6 * 3);
    }

    private static long bits(int... nodes) {
        long set = 0L;
        for (int node : nodes) {
            set |= Recipe.bit(node);
        }
        return set;
    }

    private static void directionsCost() {
        for (int direction = 0; direction < 2; direction++) {
            Check.says(2, "`cost`: 1 to 9");
            PlateauBench x = new PlateauBench();
            int edge = direction == 0 ? 0 : 59;
            for (int cost = 9; cost >= 1; cost--) {
                x.cost(direction, cost);
                Check.due("the edge " + edge + " at " + cost, x.edge(edge), cost);
            }
            Check.says(2, "Returns what it cost.");
            PlateauBench y = new PlateauBench();
            Check.due("at first", y.cost(direction, 9), 1);
            Check.due("behind the greatest", y.cost(direction, 9), 9);
            Check.due("behind the same", y.cost(direction, 1), 9);
            Check.due("behind the least", y.cost(direction, 5), 1);
            Check.due("the other one", y.cost(1 - direction, 5), 1);
        }
    }

    private static void laidOnEdges() {
        Check.says(3, "`edge`: 0 to 59");
        PlateauBench x = new PlateauBench();
        x.cost(1, 2);
        for (int edge = 0; edge < 60; edge++) {
            Check.due("before, on " + edge, x.lay(edge, edge % 51), 0);
        }
        for (int edge = 0; edge < 60; edge++) {
            Check.due("edge " + edge, x.edge(edge), edge % 51 + (edge < 30 ? 1 : 2));
            Check.due("on " + edge, x.lay(edge, 0), edge % 51);
        }
        Check.says(3, "`cost`: 0 to 50");
        for (int edge : new int[] {0, 29, 30, 59}) {
            for (int cost : new int[] {50, 1, 49, 0}) {
                x.lay(edge, cost);
                Check.due(cost + " on " + edge, x.edge(edge), cost + (edge < 30 ? 1 : 2));
            }
        }
    }

    private static void laidInPlace() {
        Check.says(3, "Lays something on an EDGE, in place of what lay there.");
        PlateauBench x = new PlateauBench();
        x.lay(59, 50);
        x.lay(59, 50);
        Check.due("the same again", x.edge(59), 51);
        x.lay(59, 3);
        Check.due("less", x.edge(59), 4);
        Check.due("beside it", x.edge(58), 1);
        Check.says(3, "Returns what lay there.");
        Check.due("less before", x.lay(59, 50), 3);
        Check.due("the most before", x.lay(59, 0), 50);
        Check.due("nothing before", x.lay(59, 0), 0);
        x.cost(1, 9);
        Check.due("not what the direction costs", x.lay(59, 1), 0);
        Check.due("what lies there stays when the direction changes", x.cost(1, 1) + x.edge(59), 9 + 2);
    }

    private static void edgeEnds() {
        PlateauBench x = new PlateauBench();
        x.lay(0, 11);
        x.lay(59, 22);
        Check.says(4, "Returns what an EDGE costs.");
        Check.due("what lies there and the direction", x.edge(0), 12);
        Check.says(4, "`edge`: 0 to 59");
        Check.due("the first", x.edge(0), 12);
        Check.due("behind the first", x.edge(1), 1);
        Check.due("before the last", x.edge(58), 1);
        Check.due("the last", x.edge(59), 23);
    }

    private static void apartFromItself() {
        Check.says(5, "Returns the cost; 0 for a NODE and itself.");
        PlateauBench x = Recipe.dearest(new PlateauBench());
        for (int node = 0; node < 36; node++) {
            Check.due("node " + node, x.apart(node, node), 0);
        }
        Check.due("beside", x.apart(0, 1), 59);
    }

    private static void apartEnds() {
        PlateauBench x = new PlateauBench();
        x.lay(29, 4);
        x.lay(59, 4);
        Check.says(5, "`node`: 0 to 35");
        Check.due("from the first", x.apart(0, 7), 2);
        Check.due("from the last", x.apart(35, 28), 6);
        Check.says(5, "`other`: 0 to 35");
        Check.due("to the first", x.apart(7, 0), 2);
        Check.due("to the last", x.apart(28, 35), 6);
        Check.says(5, "Returns how far two NODES are apart.");
        Check.due("from the first to the last", x.apart(0, 35), 14);
        Check.due("and back", x.apart(35, 0), 14);
    }

    // The one cheap way to and fro through all rows: across all of them, and down at their ends in turn.
    private static final int[] THERE_AND_BACK = {
        0, 1, 2, 3, 4, 35, 5, 6, 7, 8, 9, 36, 10, 11, 12, 13, 14, 47,
        15, 16, 17, 18, 19, 48, 20, 21, 22, 23, 24, 59, 25, 26, 27, 28, 29,
    };
    // And that up and down through all columns.
    private static final int[] UP_AND_DOWN = {
        30, 36, 42, 48, 54, 25, 55, 49, 43, 37, 31, 1, 32, 38, 44, 50, 56, 27,
        57, 51, 45, 39, 33, 3, 34, 40, 46, 52, 58, 29, 59, 53, 47, 41, 35,
    };

    private static void apartByTheLongestWay() {
        Check.says("The grid", "A way from one NODE to another one goes by EDGES");
        PlateauBench x = Recipe.cheapOnly(new PlateauBench(), THERE_AND_BACK);
        Check.due("through all nodes, row by row", x.apart(0, 30), 35);
        Check.due("and back", x.apart(30, 0), 35);
        PlateauBench y = Recipe.cheapOnly(new PlateauBench(), UP_AND_DOWN);
        Check.due("through all nodes, column by column", y.apart(0, 5), 35);
        Check.due("and back", y.apart(5, 0), 35);
    }

    private static void apartBySomeWayRound() {
        Check.says("The grid", "A way from one NODE to another one goes by EDGES");
        PlateauBench x = new PlateauBench();
        x.lay(0, 1);
        Check.due("straight on, as the way round costs more", x.apart(0, 1), 2);
        x.lay(0, 2);
        Check.due("straight on or round", x.apart(0, 1), 3);
        x.lay(0, 3);
        Check.due("round", x.apart(0, 1), 3);
        x.lay(30, 50);
        Check.due("straight on, as the corner's other edge costs more", x.apart(0, 1), 4);
    }
}
