/** Towns, nets and two ways where they end: none, one, two, four, five and six towns. */
final class NetBounds {
    private static final Class<IndexOutOfBoundsException> NO_SUCH = IndexOutOfBoundsException.class;
    private static final Class<IllegalStateException> STATE = IllegalStateException.class;

    private NetBounds() {
    }

    static void all() {
        townsAtEachNode();
        sixTowns();
        oneTownANode();
        awayTheFirst();
        awayOneInTheMiddle();
        awayTheLast();
        awayTheOnlyOne();
        awayOfSix();
        townAtEnds();
        leastOfNoneAndOne();
        leastOfTwo();
        leastOfSix();
        leastAtTheDearest();
        leastByTheLongestWay();
        leastFollowsTheGrid();
        netsFollowTowns();
        leastAnewOfFew();
        leastAnewOfFour();
        leastAnewOfFiveAndSix();
        leastAnewAsTheOther();
        boundOfNoneAndOne();
        boundOfTwo();
        boundOfThree();
        boundOfPairs();
        boundOfPairsBesideOneAnother();
        gaps();
        usedOfNoneAndOne();
        usedEnds();
        usedByAll();
        usedBySome();
        twoWaysEnds();
        twoWaysMayMeet();
        twoWaysMayLeaveTheCheapest();
        twoWaysByTheLongestWay();
    }

    private static PlateauBench towns(int... nodes) {
        return Recipe.withTowns(nodes);
    }

    // ---- towns

    private static void townsAtEachNode() {
        Check.says(6, "`node`: 0 to 35");
        for (int node = 0; node < 36; node++) {
            PlateauBench x = new PlateauBench();
            Check.due("the number of the first town, at " + node, x.town(node), 0);
            Check.due("its node", x.townAt(0), node);
        }
    }

    private static void sixTowns() {
        PlateauBench x = new PlateauBench();
        int[] nodes = {35, 0, 7, 28, 5, 30};
        for (int i = 0; i < 6; i++) {
            Check.says(6, "Returns its number.");
            Check.due("the town at " + nodes[i], x.town(nodes[i]), i);
        }
        Check.says("Nets", "There are TOWNS at NODES, at most 6, numbered from 0");
        Check.fails("a seventh", STATE, () -> x.town(1));
        Check.fails("a seventh at the sixth one's node", STATE, () -> x.town(30));
        for (int i = 0; i < 6; i++) {
            Check.due("the node of " + i, x.townAt(i), nodes[i]);
        }
        Check.fails("none behind the sixth", NO_SUCH, () -> x.townAt(6));
    }

    private static void oneTownANode() {
        Check.says("Nets", "There are TOWNS at NODES, at most 6, numbered from 0");
        PlateauBench x = towns(0);
        Check.fails("another one at the only one's node", STATE, () -> x.town(0));
        x.town(35);
        Check.fails("another one at the first one's node", STATE, () -> x.town(0));
        Check.fails("another one at the last one's node", STATE, () -> x.town(35));
        x.away(0);
        Check.fails("another one at that which is left", STATE, () -> x.town(35));
        Check.says(6, "Tells a TOWN.");
        Check.due("where one went away", x.town(0), 1);
        Check.due("how far the net goes", x.least(), 10);
    }

    private static void awayTheFirst() {
        Check.says(7, "Lets a TOWN go away.");
        PlateauBench x = towns(0, 35, 5);
        Check.due("the first", x.away(0), 0);
        Check.due("behind it", x.townAt(0) + " " + x.townAt(1), "35 5");
        Check.fails("the number that is gone", NO_SUCH, () -> x.townAt(2));
        Check.due("the net without it", x.least(), 5);
    }

    private static void awayOneInTheMiddle() {
        Check.says("Nets", "There are TOWNS at NODES, at most 6, numbered from 0");
        PlateauBench x = towns(3, 9, 27, 30);
        Check.due("the second", x.away(1), 9);
        Check.due("before and behind it", x.townAt(0) + " " + x.townAt(1) + " " + x.townAt(2), "3 27 30");
        Check.fails("the number that is gone", NO_SUCH, () -> x.away(3));
        Check.due("a new one gets the number behind the last", x.town(9), 3);
    }

    private static void awayTheLast() {
        Check.says(7, "`town`: its number");
        PlateauBench x = towns(3, 9, 27);
        Check.due("the last", x.away(2), 27);
        Check.due("those before it", x.townAt(0) + " " + x.townAt(1), "3 9");
        Check.fails("its number again", NO_SUCH, () -> x.away(2));
        Check.due("the last of those that are left", x.away(1), 9);
    }

    private static void awayTheOnlyOne() {
        Check.says(7, "Returns its NODE.");
        PlateauBench x = towns(35);
        Check.due("the only one", x.away(0), 35);
        Check.fails("none is left", NO_SUCH, () -> x.away(0));
        Check.fails("none is left to be asked for", NO_SUCH, () -> x.townAt(0));
        Check.due("the least of none", x.least(), 0);
        Check.due("the first again", x.town(0), 0);
        Check.due("its node", x.away(0), 0);
    }

    private static void awayOfSix() {
        for (int gone = 0; gone < 6; gone++) {
            Check.says(7, "Lets a TOWN go away.");
            int number = gone;
            int[] nodes = {35, 0, 7, 28, 5, 30};
            PlateauBench x = towns(nodes);
            Check.due("of six, " + gone, x.away(gone), nodes[gone]);
            Check.fails("there is no sixth", NO_SUCH, () -> x.townAt(5));
            for (int i = 0; i < 5; i++) {
                Check.due("without " + number + ", " + i, x.townAt(i), nodes[i < number ? i : i + 1]);
            }
            Check.says(6, "Tells a TOWN.");
            Check.due("a sixth again", x.town(nodes[gone]), 5);
            Check.fails("no seventh", STATE, () -> x.town(1));
        }
    }

    private static void townAtEnds() {
        PlateauBench x = towns(35, 17, 0, 1, 34, 18);
        Check.says(8, "`town`: its number");
        Check.due("the first", x.townAt(0), 35);
        Check.due("the last", x.townAt(5), 18);
        Check.says(8, "Returns the NODE of a TOWN.");
        Check.due("the node 0", x.townAt(2), 0);
        Check.due("the node 34", x.townAt(4), 34);
    }

    // ---- the least

    private static void leastOfNoneAndOne() {
        Check.says("Nets", "The LEAST is the cost of the cheapest NET, 0 with fewer than two TOWNS.");
        Check.due("none", new PlateauBench().least(), 0);
        for (int node = 0; node < 36; node++) {
            Check.due("one at " + node, towns(node).least(), 0);
        }
        PlateauBench x = Recipe.dearest(towns(0, 35));
        Check.due("two", x.least(), 590);
        x.away(1);
        Check.due("one left", x.least(), 0);
        x.away(0);
        Check.due("none left", x.least(), 0);
        x.town(17);
        x.town(18);
        Check.due("two again", x.least(), 6 * 59);
    }

    private static void leastOfTwo() {
        Check.says(9, "Returns the LEAST.");
        for (int other = 1; other < 36; other++) {
            PlateauBench x = towns(0, other);
            x.cost(1, 4);
            Check.due("from 0 to " + other, x.least(), other % 6 + 4 * (other / 6));
        }
    }

    private static void leastOfSix() {
        Check.says("Nets", "A NET is a set of EDGES by which all TOWNS are joined; it costs what its EDGES cost, together.");
        Check.due("in a row", towns(0, 5, 1, 4, 2, 3).least(), 5);
        Check.due("in a column", towns(0, 30, 12, 24, 18, 6).least(), 5);
        Check.due("in the corner", towns(29, 35, 34, 28, 33, 27).least(), 5);
        Check.due("round the rim", towns(0, 5, 30, 35, 2, 33).least(), 15);
        // A node without a town, 20, at which four meet: one for each of 14, 19, 21, 26.
        Check.due("round a node", towns(14, 19, 21, 26).least(), 4);
        PlateauBench x = towns(14, 19, 21, 26, 13, 27);
        Check.due("and two more", x.least(), 6);
        x.away(5);
        Check.due("and one more", x.least(), 5);
    }

    private static void leastAtTheDearest() {
        Check.says("Nets", "A NET is a set of EDGES by which all TOWNS are joined; it costs what its EDGES cost, together.");
        PlateauBench x = Recipe.dearest(towns(0, 5, 30, 35));
        Check.due("four corners", x.least(), 15 * 59);
        Check.due("four corners anew", x.leastAnew(), 15 * 59);
        x.town(12);
        x.town(17);
        Check.due("and two in the rims between them", x.least(), 15 * 59);
    }

    // The one cheap way through all nodes, row by row; all other edges are dear.
    private static PlateauBench longWay(int... nodes) {
        return Recipe.cheapOnly(towns(nodes), 0, 1, 2, 3, 4, 35, 5, 6, 7, 8, 9, 36, 10, 11, 12, 13, 14, 47,
            15, 16, 17, 18, 19, 48, 20, 21, 22, 23, 24, 59, 25, 26, 27, 28, 29);
    }

    private static void leastByTheLongestWay() {
        Check.says("Nets", "The LEAST is the cost of the cheapest NET, 0 with fewer than two TOWNS.");
        Check.due("two towns at its ends", longWay(0, 30).least(), 35);
        Check.due("six towns along it", longWay(17, 30, 0, 12, 5, 24).least(), 35);
        Check.due("four towns along it, anew", longWay(17, 30, 0, 12).leastAnew(), 35);
        PlateauBench x = longWay(30, 0);
        for (int edge = 0; edge < 60; edge++) {
            Check.due("whether edge " + edge + " is used", x.isUsed(edge), x.edge(edge) == 1);
        }
    }

    private static void leastFollowsTheGrid() {
        Check.says(9, "Returns the LEAST.");
        PlateauBench x = towns(0, 1, 7);
        Check.due("before", x.least(), 2);
        x.lay(0, 50);
        Check.due("one edge dearer", x.least(), 3);
        x.cost(1, 9);
        Check.due("down dearer", x.least(), 19);
        x.lay(0, 0);
        Check.due("one edge cheaper", x.least(), 10);
        x.cost(1, 1);
        Check.due("as before", x.least(), 2);
    }

    /** The same asked before and behind a town's going away or coming, whatever was kept in between. */
    private static void netsFollowTowns() {
        Check.says("Nets", "The LEAST is the cost of the cheapest NET, 0 with fewer than two TOWNS.");
        PlateauBench x = towns(0, 12, 5, 35);
        nets(x, 12, 10, true);
        x.away(0);
        nets(x, 10, 10, false);
        x.away(1);
        nets(x, 8, 8, false);
        x.town(0);
        nets(x, 10, 10, true);
        x.away(1);
        nets(x, 2, 2, true);
        x.away(0);
        nets(x, 0, 0, false);
        x.town(5);
        nets(x, 5, 5, true);
        PlateauBench y = towns(0, 12, 5, 35);
        nets(y, 12, 10, true);
        y.away(3);
        nets(y, 7, 7, true);
        y.away(2);
        nets(y, 2, 2, true);
        y.away(1);
        nets(y, 0, 0, false);
    }

    private static void nets(PlateauBench x, int least, int bound, boolean isFirstUsed) {
        Check.due("the least", x.least(), least);
        Check.due("the least, anew", x.leastAnew(), least);
        Check.due("the bound", x.bound(), bound);
        Check.due("the gap", x.gap(), least - bound);
        Check.due("the first edge in use", x.isUsed(0) || x.isUsed(30), isFirstUsed);
    }

    // ---- the least, anew

    private static void leastAnewOfFew() {
        Check.says(10, "Returns the LEAST; NONE with more than four TOWNS.");
        Check.due("none", new PlateauBench().leastAnew(), 0);
        Check.due("one, the first", towns(0).leastAnew(), 0);
        Check.due("one, the last", Recipe.dearest(towns(35)).leastAnew(), 0);
        Check.due("two", towns(35, 0).leastAnew(), 10);
        Check.due("two beside one another", towns(0, 1).leastAnew(), 1);
        Check.due("three round a node", towns(1, 6, 8).leastAnew(), 3);
        Check.due("three in a row", towns(5, 0, 3).leastAnew(), 5);
        Check.says(10, "Returns the same, found by going through all shapes with two NODES");
        Check.due("three that meet at the node 0", towns(5, 0, 30).leastAnew(), 10);
        Check.due("three that meet at the node 5", towns(0, 5, 35).leastAnew(), 10);
        Check.due("three that meet at the node 30", towns(0, 35, 30).leastAnew(), 10);
        Check.due("three that meet at the node 35", towns(30, 5, 35).leastAnew(), 10);
    }

    private static void leastAnewOfFour() {
        Check.says(10, "Returns the same, found by going through all shapes with two NODES");
        Check.due("all meet at one node without a town", towns(14, 19, 21, 26).leastAnew(), 4);
        Check.due("all meet at a town", towns(14, 20, 21, 26).leastAnew(), 3);
        Check.due("one behind the other", towns(0, 35, 5, 3).leastAnew(), 10);
        PlateauBench x = Recipe.cheapOnly(towns(0, 12, 3, 15), 30, 36, 5, 6, 7, 33, 39);
        Check.due("two and two meet at two nodes without a town", x.leastAnew(), 7);
        Check.due("the same", x.least(), 7);
        PlateauBench y = Recipe.cheapOnly(towns(0, 12, 3, 15), 30, 36, 5, 6, 7, 33, 39);
        y.lay(6, 50);
        Check.due("by one dear edge", y.leastAnew(), 57);
    }

    private static void leastAnewOfFiveAndSix() {
        Check.says(10, "Returns the LEAST; NONE with more than four TOWNS.");
        PlateauBench x = towns(0, 5, 30, 35);
        Check.due("four", x.leastAnew(), 15);
        x.town(14);
        Check.due("five", x.leastAnew(), PlateauBench.NONE);
        x.town(15);
        Check.due("six", x.leastAnew(), PlateauBench.NONE);
        Check.fails("a seventh", STATE, () -> x.town(16));
        Check.due("six still", x.leastAnew(), PlateauBench.NONE);
        x.away(0);
        Check.due("five again", x.leastAnew(), PlateauBench.NONE);
        x.away(0);
        Check.due("four again, 30, 35, 14 and 15", x.leastAnew(), 9);
    }

    private static void leastAnewAsTheOther() {
        Check.says(10, "Returns the same, found by going through all shapes with two NODES");
        for (int i = 0; i < 60; i++) {
            PlateauBench x = new PlateauBench();
            x.cost(0, 1 + i % 4);
            x.cost(1, 1 + i % 3);
            for (int k = 0; k < 30; k++) {
                x.lay((7 * k + i) % 60, (11 * k + 3 * i) % 13);
            }
            for (int k = 0; k < 2 + i % 3; k++) {
                x.town((i * 5 + k * (7 + i % 4)) % 36);
            }
            Check.due("drawn " + i, x.leastAnew(), x.least());
        }
    }

    // ---- the bound and the gap

    private static final String BOUND = "The BOUND is the greatest of these: 0; how far any two TOWNS are apart;";

    private static void boundOfNoneAndOne() {
        Check.says("Nets", BOUND);
        Check.due("none", new PlateauBench().bound(), 0);
        Check.due("one", Recipe.dearest(towns(0)).bound(), 0);
        PlateauBench x = towns(0, 35);
        x.away(0);
        Check.due("one left", x.bound(), 0);
        x.away(0);
        Check.due("none left", x.bound(), 0);
    }

    private static void boundOfTwo() {
        Check.says("Nets", BOUND);
        // Half of the one pair, 5, is less.
        Check.due("the corners", towns(0, 35).bound(), 10);
        Check.due("beside one another", towns(34, 35).bound(), 1);
        Check.due("at the dearest", Recipe.dearest(towns(30, 5)).bound(), 590);
    }

    private static void boundOfThree() {
        Check.says("Nets", BOUND);
        PlateauBench x = towns(0, 1, 7);
        Check.due("half of 4", x.bound(), 2);
        x.lay(0, 1);
        Check.due("half of 5, rounded up", x.bound(), 3);
        x.lay(31, 1);
        Check.due("half of 6", x.bound(), 3);
        Check.due("half of 14", towns(2, 12, 17).bound(), 7);
        Check.says(11, "Returns the BOUND.");
        Check.due("the widest three, told last", towns(14, 15, 0, 5, 35).bound(), 10);
        Check.due("the widest three, told first", towns(35, 5, 0, 15, 14).bound(), 10);
        Check.due("the widest three, told apart", towns(0, 14, 5, 15, 35).bound(), 10);
    }

    private static void boundOfPairs() {
        Check.says("Nets", BOUND);
        PlateauBench x = towns(0, 5, 30, 35, 14, 21);
        for (int edge : new int[] {0, 30, 4, 35, 25, 54, 29, 59, 11, 12, 38, 44, 17, 18, 45, 51}) {
            x.lay(edge, 50);
        }
        // 14 and 21 are 102 apart, 0 and 14 as 35 and 21 are 104, 5 and 30 are 105 from the nearest one.
        Check.due("half of 520", x.bound(), 260);
        // Now 102 from 5 to each of 0, 35, 14 and 21, and 105 to 30.
        x.lay(4, 47);
        x.lay(35, 47);
        Check.due("half of 513, rounded up", x.bound(), 257);
        x.lay(4, 48);
        x.lay(35, 48);
        Check.due("half of 516", x.bound(), 258);
    }

    private static void boundOfPairsBesideOneAnother() {
        Check.says("Nets", BOUND);
        PlateauBench x = towns(0, 1, 5, 30, 35, 14);
        for (int edge : new int[] {30, 31, 1, 4, 35, 25, 54, 11, 12, 38, 44}) {
            x.lay(edge, 50);
        }
        x.lay(30, 49);
        x.lay(29, 48);
        x.lay(59, 49);
        // 0 and 1 are 1 apart, 1 and 14 are 103, as 30 and 35 are, 1 and 5 are 104, as 5 and 35 are.
        Check.due("half of 415, rounded up", x.bound(), 208);
    }

    private static void gaps() {
        Check.says("Nets", "The GAP is the LEAST less the BOUND.");
        Check.due("none", new PlateauBench().gap(), 0);
        Check.due("one", towns(35).gap(), 0);
        Check.due("two", towns(0, 35).gap(), 0);
        Check.due("three", towns(0, 5, 35).gap(), 0);
        Check.due("four corners", towns(0, 5, 30, 35).gap(), 15 - 10);
        Check.says(12, "Returns the GAP.");
        PlateauBench x = Recipe.dearest(towns(0, 5, 30, 35));
        Check.due("four corners at the dearest", x.gap(), 5 * 59);
        x.away(2);
        Check.due("three left", x.gap(), 0);
        x.away(0);
        x.away(0);
        Check.due("one left", x.gap(), 0);
    }

    // ---- edges in use

    private static void usedOfNoneAndOne() {
        Check.says(13, "Tells whether an EDGE is in some NET that costs the LEAST.");
        PlateauBench none = new PlateauBench();
        PlateauBench one = towns(0);
        PlateauBench left = towns(0, 35);
        Check.due("two towns", left.isUsed(0), true);
        left.away(1);
        for (int edge = 0; edge < 60; edge++) {
            Check.due("no town, " + edge, none.isUsed(edge), false);
            Check.due("one town, " + edge, one.isUsed(edge), false);
            Check.due("one town left, " + edge, left.isUsed(edge), false);
        }
    }

    private static void onlyUsed(int only, PlateauBench x) {
        for (int edge = 0; edge < 60; edge++) {
            Check.due("edge " + edge, x.isUsed(edge), edge == only);
        }
    }

    private static void usedEnds() {
        Check.says(13, "`edge`: 0 to 59");
        onlyUsed(0, towns(0, 1));
        onlyUsed(4, towns(5, 4));
        onlyUsed(29, towns(34, 35));
        onlyUsed(30, towns(6, 0));
        onlyUsed(35, towns(5, 11));
        onlyUsed(59, towns(29, 35));
    }

    private static void usedByAll() {
        Check.says(13, "Tells whether an EDGE is in some NET that costs the LEAST.");
        PlateauBench x = towns(0, 35);
        PlateauBench y = towns(5, 30);
        for (int edge = 0; edge < 60; edge++) {
            Check.due("from corner to corner, " + edge, x.isUsed(edge), true);
            Check.due("from the other ones, " + edge, y.isUsed(edge), true);
        }
        x.lay(0, 1);
        for (int edge = 0; edge < 60; edge++) {
            boolean isBehindIt = edge < 5 || (edge > 30 && edge < 36);
            Check.due("one corner's edge dearer, " + edge, x.isUsed(edge), !isBehindIt);
        }
    }

    private static void usedBySome() {
        Check.says(13, "Tells whether an EDGE is in some NET that costs the LEAST.");
        PlateauBench x = towns(14, 19, 21, 26);
        for (int edge = 0; edge < 60; edge++) {
            Check.due("round a node, " + edge, x.isUsed(edge), edge == 16 || edge == 17 || edge == 44 || edge == 50);
        }
        PlateauBench y = towns(0, 30, 12, 24, 18, 6);
        for (int edge = 0; edge < 60; edge++) {
            Check.due("six in a column, " + edge, y.isUsed(edge), edge >= 30 && edge % 6 == 0);
        }
    }

    // ---- two ways

    private static final String TWO = "The two ways from a NODE to another one are two ways that share no EDGE";

    private static void twoWaysEnds() {
        PlateauBench x = new PlateauBench();
        Check.says(14, "`node`: 0 to 35");
        Check.due("from the first", x.twoWays(0, 1), 1 + 3);
        Check.due("from the last", x.twoWays(35, 34), 1 + 3);
        Check.says(14, "`other`: 0 to 35");
        Check.due("to the first", x.twoWays(6, 0), 1 + 3);
        Check.due("to the last", x.twoWays(29, 35), 1 + 3);
        Check.says(14, "Returns what the two ways from a NODE to another one cost, together.");
        Check.due("from the first to the last", x.twoWays(0, 35), 20);
        Check.due("and back", x.twoWays(35, 0), 20);
        Check.due("at the dearest", Recipe.dearest(new PlateauBench()).twoWays(5, 30), 20 * 59);
        Check.due("beside one another at the dearest", Recipe.dearest(new PlateauBench()).twoWays(0, 1), 4 * 59);
    }

    private static void twoWaysMayMeet() {
        Check.says("Nets", TWO);
        // Two rings of four edges that have the node 7 in common.
        PlateauBench x = Recipe.cheapOnly(new PlateauBench(), 0, 30, 5, 31, 6, 37, 38, 11);
        Check.due("by one node", x.twoWays(0, 14), 8);
        Check.due("and back", x.twoWays(14, 0), 8);
        x.lay(6, 50);
        Check.due("with a dear edge in the second ring", x.twoWays(0, 14), 58);
    }

    private static void twoWaysMayLeaveTheCheapest() {
        Check.says("Nets", TWO);
        PlateauBench x = Recipe.cheapOnly(new PlateauBench(), 5, 6, 7, 30, 0, 1, 32, 37, 11, 12, 39);
        Check.due("the cheapest way", x.apart(6, 9), 3);
        // 6 0 1 2 8 9 and 6 7 13 14 15 9: what lies between 7 and 8 is in neither.
        Check.due("both ways", x.twoWays(6, 9), 10);
        Check.due("and back", x.twoWays(9, 6), 10);
        // From a corner both edges are in use, however dear.
        PlateauBench y = new PlateauBench();
        y.lay(30, 50);
        Check.due("out of a corner", y.twoWays(0, 2), 2 + 51 + 3);
    }

    private static void twoWaysByTheLongestWay() {
        Check.says("Nets", TWO);
        // One cheap ring through all nodes: of any two of them the ways are its halves.
        int[] ring = {
            0, 1, 2, 3, 4, 35, 6, 7, 8, 9, 37, 11, 12, 13, 14, 47, 16, 17, 18, 19, 49, 21, 22, 23, 24, 59,
            25, 26, 27, 28, 29, 54, 48, 42, 36, 30,
        };
        for (int node = 0; node < 36; node++) {
            PlateauBench x = Recipe.cheapOnly(new PlateauBench(), ring);
            for (int other = 0; other < 36; other++) {
                if (other != node) {
                    Check.due("round all nodes, from " + node + " to " + other, x.twoWays(node, other), 36);
                }
            }
        }
    }
}
