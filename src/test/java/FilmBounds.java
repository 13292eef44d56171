/** Pins and films where they end: no node inside, none outside, none pinned, none free. */
final class FilmBounds {
    private static final long ALL = Recipe.ALL_NODES;

    private FilmBounds() {
    }

    static void all() {
        pinsAtEachNode();
        pinsOfEachKind();
        pinsAtFirst();
        filmsWithNonePinned();
        filmsWithNoneInside();
        filmsWithNoneOutside();
        filmsWithAllInside();
        filmsWithAllOutside();
        filmsWithNoneFree();
        filmsAtTheDearest();
        filmsOfOneNode();
        filmsBetweenNeighbours();
        filmsFollowPins();
        filmsWithInsideOnBothSides();
        proofIfThereAreBoth();
        fieldsThroughPins();
        sidesApart();
        sidesAlike();
        sidesHaveOneAnother();
        setsBitByBit();
        costOfEnds();
        costOfNoFilm();
    }

    private static PlateauBench all(int as) {
        PlateauBench x = new PlateauBench();
        for (int node = 0; node < 36; node++) {
            x.pin(node, as);
        }
        return x;
    }

    private static void costs(PlateauBench x, int due) {
        Check.says(16, "Returns what the FILMS that cost least cost.");
        Check.due("film", x.film(), due);
        Check.says(17, "Returns the PROOF.");
        Check.due("proof", x.proof(), due);
    }

    private static void sides(PlateauBench x, long smallest, long greatest) {
        Check.says(18, "`isGreatest`: whether the greatest one is asked for, otherwise the smallest one");
        Check.due("the smallest", x.side(false), smallest);
        Check.due("the greatest", x.side(true), greatest);
        Check.says(18, "Returns a FILM that costs least.");
        Check.due("what the smallest costs", x.costOf(x.side(false)), x.film());
        Check.due("what the greatest costs", x.costOf(x.side(true)), x.film());
    }

    // ---- pins

    private static void pinsAtEachNode() {
        Check.says(15, "`node`: 0 to 35");
        for (int node = 0; node < 36; node++) {
            PlateauBench x = new PlateauBench();
            x.pin(node, 1);
            for (int other = 0; other < 36; other++) {
                Check.due("inside at " + node + ", without " + other, x.costOf(ALL & ~Recipe.bit(other)) < 0, other == node);
            }
            x.pin(node, 2);
            for (int other = 0; other < 36; other++) {
                Check.due("outside at " + node + ", with " + other, x.costOf(Recipe.bit(other)) < 0, other == node);
            }
        }
    }

    private static void pinsOfEachKind() {
        Check.says(15, "`as`: FREE to OUTSIDE");
        PlateauBench x = new PlateauBench();
        for (int node : new int[] {0, 35}) {
            int before = 0;
            for (int as : new int[] {0, 1, 1, 2, 2, 0, 2, 1, 0}) {
                Check.says(15, "Returns what it was.");
                Check.due("before " + as, x.pin(node, as), before);
                Check.says(15, "Pins a NODE, or frees it.");
                Check.due("without it behind " + as, x.costOf(0L), as == PlateauBench.INSIDE ? -1 : 0);
                Check.due("with it behind " + as, x.costOf(ALL), as == PlateauBench.OUTSIDE ? -1 : 0);
                before = as;
            }
        }
    }

    private static void pinsAtFirst() {
        Check.says("Films", "A NODE may be pinned INSIDE or OUTSIDE, or be FREE, as at first.");
        PlateauBench x = new PlateauBench();
        for (int node = 0; node < 36; node++) {
            Check.due("node " + node, x.pin(node, 1), PlateauBench.FREE);
        }
        for (int node = 0; node < 36; node++) {
            Check.due("node " + node + " pinned", x.pin(node, 0), PlateauBench.INSIDE);
        }
        sides(x, 0L, ALL);
    }

    // ---- films

    private static final String FILM = "A FILM is a set of NODES that has all those INSIDE, and none OUTSIDE;";

    private static void filmsWithNonePinned() {
        Check.says("Films", FILM);
        PlateauBench x = Recipe.dearest(new PlateauBench());
        costs(x, 0);
        sides(x, 0L, ALL);
    }

    private static void filmsWithNoneInside() {
        Check.says("Films", FILM);
        for (int node = 0; node < 36; node++) {
            PlateauBench x = new PlateauBench();
            x.pin(node, 2);
            costs(x, 0);
            sides(x, 0L, 0L);
        }
        PlateauBench x = Recipe.pinned(0, 35);
        x.pin(0, 0);
        costs(x, 0);
        sides(x, 0L, 0L);
    }

    private static void filmsWithNoneOutside() {
        Check.says("Films", FILM);
        for (int node = 0; node < 36; node++) {
            PlateauBench x = new PlateauBench();
            x.pin(node, 1);
            costs(x, 0);
            sides(x, ALL, ALL);
        }
        PlateauBench x = Recipe.pinned(0, 35);
        x.pin(35, 0);
        costs(x, 0);
        sides(x, ALL, ALL);
    }

    private static void filmsWithAllInside() {
        Check.says("Films", FILM);
        PlateauBench x = all(1);
        costs(x, 0);
        sides(x, ALL, ALL);
        Check.due("all", x.costOf(ALL), 0);
        Check.due("all but one", x.costOf(ALL >> 1), -1);
        x.pin(35, 2);
        costs(x, 2);
        sides(x, ALL >> 1, ALL >> 1);
        x.pin(35, 0);
        costs(x, 0);
        sides(x, ALL, ALL);
    }

    private static void filmsWithAllOutside() {
        Check.says("Films", FILM);
        PlateauBench x = all(2);
        costs(x, 0);
        sides(x, 0L, 0L);
        Check.due("nothing", x.costOf(0L), 0);
        Check.due("one", x.costOf(1L), -1);
        x.pin(14, 1);
        costs(x, 4);
        sides(x, Recipe.bit(14), Recipe.bit(14));
        x.pin(14, 0);
        costs(x, 0);
        sides(x, 0L, 0L);
    }

    private static PlateauBench chessboard(int ofWhite) {
        PlateauBench x = new PlateauBench();
        for (int node = 0; node < 36; node++) {
            x.pin(node, Recipe.isWhite(node) ? ofWhite : 3 - ofWhite);
        }
        return x;
    }

    private static long whites() {
        long set = 0L;
        for (int node = 0; node < 36; node++) {
            set |= Recipe.isWhite(node) ? Recipe.bit(node) : 0L;
        }
        return set;
    }

    private static void filmsWithNoneFree() {
        Check.says("Films", FILM);
        PlateauBench x = chessboard(1);
        costs(x, 60);
        sides(x, whites(), whites());
        PlateauBench y = chessboard(2);
        costs(y, 60);
        sides(y, ALL & ~whites(), ALL & ~whites());
        y.pin(0, 0);
        costs(y, 58);
        sides(y, (ALL & ~whites()) | 1L, (ALL & ~whites()) | 1L);
    }

    private static void filmsAtTheDearest() {
        Check.says("Films", "A FIELD gives each EDGE a flow in one of its directions, a whole number, at most what it costs");
        costs(Recipe.dearest(chessboard(1)), 60 * 59);
        costs(Recipe.dearest(Recipe.pinned(0, 35)), 2 * 59);
        costs(Recipe.dearest(Recipe.pinned(14, 21)), 4 * 59);
        PlateauBench x = Recipe.dearest(new PlateauBench());
        for (int column = 0; column < 6; column++) {
            x.pin(column, 1);
            x.pin(30 + column, 2);
        }
        costs(x, 6 * 59);
        sides(x, (1L << 6) - 1, (1L << 30) - 1);
    }

    private static void filmsOfOneNode() {
        Check.says("Films", FILM);
        for (int node = 0; node < 36; node++) {
            PlateauBench x = all(2);
            x.pin(node, 1);
            int beside = 4 - (node % 6 % 5 == 0 ? 1 : 0) - (node / 6 % 5 == 0 ? 1 : 0);
            costs(x, beside);
            sides(x, Recipe.bit(node), Recipe.bit(node));
        }
    }

    private static void filmsBetweenNeighbours() {
        Check.says("Films", FILM);
        PlateauBench x = Recipe.pinned(5, 6);
        // The end of a row is not beside the next one's start.
        x.lay(4, 50);
        x.lay(35, 50);
        costs(x, 3);
        PlateauBench y = Recipe.pinned(34, 35);
        y.lay(29, 50);
        costs(y, 52);
        sides(y, ALL >> 1, ALL >> 1);
    }

    private static void filmsFollowPins() {
        Check.says(16, "Returns what the FILMS that cost least cost.");
        PlateauBench x = Recipe.pinned(14, 21);
        costs(x, 4);
        x.pin(14, 2);
        costs(x, 0);
        x.pin(21, 1);
        costs(x, 4);
        x.lay(17, 50);
        costs(x, 4);
        // One way from 21 to 14 by 20 takes 51 now, the three others take 1 each.
        x.lay(44, 50);
        costs(x, 54);
        x.pin(20, 1);
        costs(x, 54);
        x.pin(20, 0);
        x.pin(14, 0);
        costs(x, 0);
    }

    private static void filmsWithInsideOnBothSides() {
        Check.says("Films", FILM);
        PlateauBench x = new PlateauBench();
        for (int row = 0; row < 6; row++) {
            x.pin(6 * row, 1);
            x.pin(6 * row + 5, 1);
            x.pin(6 * row + 2, 2);
        }
        costs(x, 12);
        long left = 0b000001000001000001000001000001000001L;
        sides(x, left | left << 5, left * 0b111011L);
    }

    // ---- the proof

    private static void proofIfThereAreBoth() {
        Check.says("Films", "The PROOF is the most that a FIELD proves, if there are NODES INSIDE and OUTSIDE, otherwise 0.");
        PlateauBench x = new PlateauBench();
        Check.due("none pinned", x.proof(), 0);
        x.pin(0, 1);
        Check.due("one inside", x.proof(), 0);
        x.pin(1, 1);
        Check.due("two inside", x.proof(), 0);
        x.pin(35, 2);
        Check.due("and one outside", x.proof(), 2);
        x.pin(0, 0);
        x.pin(1, 0);
        Check.due("one outside alone", x.proof(), 0);
        x.pin(34, 2);
        Check.due("two outside alone", x.proof(), 0);
        x.pin(35, 1);
        Check.due("one of each, beside one another", x.proof(), 2);
        Check.due("all inside", all(1).proof(), 0);
        Check.due("all outside", all(2).proof(), 0);
    }

    private static void fieldsThroughPins() {
        Check.says("Films", "It proves as much as flows from the NODES INSIDE, less what flows to them, together");
        // What flows from 12 to 13 and from there on counts once.
        PlateauBench x = Recipe.pinned(12, 14);
        x.pin(13, 1);
        x.lay(11, 9);
        costs(x, 13);
        PlateauBench y = Recipe.pinned(12, 16);
        for (int node : new int[] {13, 14, 15}) {
            y.pin(node, 1);
        }
        y.pin(17, 2);
        // 16 takes three and 17 two; what would flow between them counts for neither.
        costs(y, 5);
        Check.says("Films", "A FIELD gives each EDGE a flow in one of its directions, a whole number, at most what it costs");
        // 0 inside can send no more than its two edges take, each of them less than those behind it.
        PlateauBench z = Recipe.dearest(Recipe.pinned(0, 35));
        z.lay(0, 0);
        z.lay(30, 1);
        costs(z, 9 + 10);
        sides(z, 1L, 1L);
    }

    // ---- the sides

    private static void sidesApart() {
        Check.says("Films", "Of the FILMS that cost least the smallest one is that which all others have within them");
        PlateauBench x = Recipe.pinned(0, 35);
        sides(x, 1L, ALL >> 1);
        PlateauBench y = Recipe.pinned(35, 0);
        sides(y, Recipe.bit(35), ALL & ~1L);
        PlateauBench z = new PlateauBench();
        z.pin(0, 1);
        z.pin(5, 2);
        sides(z, 1L, ALL & ~Recipe.bit(5));
    }

    private static void sidesAlike() {
        Check.says("Films", "Of the FILMS that cost least the smallest one is that which all others have within them");
        PlateauBench x = Recipe.pinned(0, 35);
        x.lay(0, 1);
        sides(x, ALL >> 1, ALL >> 1);
        x.lay(0, 0);
        x.lay(29, 1);
        sides(x, 1L, 1L);
    }

    private static void sidesHaveOneAnother() {
        Check.says("Films", "Of the FILMS that cost least the smallest one is that which all others have within them");
        PlateauBench x = new PlateauBench();
        for (int column = 0; column < 6; column++) {
            x.pin(column, 1);
            x.pin(30 + column, 2);
        }
        sides(x, (1L << 6) - 1, (1L << 30) - 1);
        for (int row = 1; row < 5; row++) {
            Check.due("all above row " + row, x.costOf((1L << 6 * row) - 1), 6);
        }
        x.lay(30, 1);
        sides(x, (1L << 12) - 1, (1L << 30) - 1);
        x.lay(59, 1);
        sides(x, (1L << 12) - 1, (1L << 24) - 1);
        // The one between both is none that costs least any more.
        x.lay(42, 1);
        Check.due("all above row 3", x.costOf((1L << 18) - 1), 7);
        sides(x, (1L << 12) - 1, (1L << 24) - 1);
    }

    private static void setsBitByBit() {
        Check.says("The foam", "Sets of NODES are told as numbers, the bit n for the NODE n.");
        for (int node = 0; node < 36; node++) {
            PlateauBench x = all(1);
            x.pin(node, 2);
            Check.due("all but " + node, x.side(true), ALL ^ 1L << node);
            Check.due("what all but " + node + " cost", x.costOf(ALL ^ 1L << node), x.film());
        }
        Check.says(18, "Returns the set of its NODES.");
        Check.due("the last node", Recipe.pinned(35, 0).side(false), 34359738368L);
        Check.due("all but the last", Recipe.pinned(0, 35).side(true), 34359738367L);
        Check.due("all", new PlateauBench().side(true), 68719476735L);
        Check.due("none", new PlateauBench().side(false), 0L);
    }

    // ---- what a film costs

    private static void costOfEnds() {
        Check.says(19, "`film`: a set of NODES");
        PlateauBench x = new PlateauBench();
        x.cost(0, 2);
        x.lay(59, 50);
        Check.due("no node", x.costOf(0L), 0);
        Check.due("the first node", x.costOf(1L), 3);
        Check.due("the last node", x.costOf(1L << 35), 53);
        Check.due("all but the last", x.costOf(ALL >> 1), 53);
        Check.due("all", x.costOf(ALL), 0);
        Check.says(19, "Returns what a FILM costs.");
        Check.due("the nodes 31 and 32", x.costOf(3L << 31), 6);
        Check.due("the first row", x.costOf(63L), 6);
        Check.due("the last column", x.costOf(0b100000100000100000100000100000100000L), 12);
        Check.due("the end of a row and the next one's start", x.costOf(3L << 5), 3 + 4);
    }

    private static void costOfNoFilm() {
        Check.says(19, "Returns that; NONE if it is none, as it has not all INSIDE, or one OUTSIDE.");
        PlateauBench x = Recipe.pinned(0, 35);
        x.pin(1, 1);
        x.pin(34, 2);
        Check.due("all inside, none outside", x.costOf(3L), 3);
        Check.due("none inside", x.costOf(0L), PlateauBench.NONE);
        Check.due("one inside of two", x.costOf(1L), -1);
        Check.due("the other one of two", x.costOf(2L), -1);
        Check.due("one outside of two", x.costOf(3L | 1L << 35), -1);
        Check.due("the other one outside", x.costOf(3L | 1L << 34), -1);
        Check.due("all", x.costOf(ALL), -1);
        Check.due("one outside, and not all inside", x.costOf(1L << 35), -1);
        Check.due("all but those outside", x.costOf(ALL >> 2), 3);
    }
}
