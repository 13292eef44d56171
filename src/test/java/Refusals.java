import java.util.EnumMap;
import java.util.Map;
import java.util.stream.IntStream;

/** Every call that must be refused, on each recipe's bench, which must be as its twin behind it. */
final class Refusals {
    interface Call {
        Object on(PlateauBench x);
    }

    interface One {
        Object on(PlateauBench x, int first);
    }

    interface Two {
        Object on(PlateauBench x, int first, int second);
    }

    private static final Class<IndexOutOfBoundsException> NO_SUCH = IndexOutOfBoundsException.class;
    private static final Class<IllegalArgumentException> OUT = IllegalArgumentException.class;
    private static final Class<IllegalStateException> STATE = IllegalStateException.class;
    private static final int[] NO_NODE = outside(0, 35);
    private static final int[] NO_EDGE = outside(0, 59);
    private static final int[] NO_BUBBLE = outside(0, 7);
    private static final Map<Recipe, String> STATES = new EnumMap<>(Recipe.class);

    private Refusals() {
    }

    static void all() {
        ofTheGrid();
        ofTowns();
        ofTwoWays();
        ofFilms();
        ofTheFoam();
        eachKindHasItsException();
        theFirstListedGoesFirst();
        manyRefusedCallsChangeNothing();
        whatIsOnlyAskedChangesNothing();
    }

    // ---- the numbers

    /** The one below and the one above, the least and the greatest int, and what a cut to fewer bits would bring in. */
    private static int[] outside(int least, int greatest) {
        int[] all = {
            least - 1, greatest + 1, Integer.MIN_VALUE, Integer.MAX_VALUE, Integer.MIN_VALUE + greatest,
            least - 256, greatest + 256, least - 65536, greatest + 65536, -greatest - 1,
        };
        return IntStream.of(all).filter(n -> n < least || n > greatest).distinct().toArray();
    }

    private static int[] ends(int least, int greatest) {
        return new int[] {least, greatest};
    }

    private static int[] around(int least, int greatest) {
        return IntStream.concat(IntStream.of(ends(least, greatest)), IntStream.of(outside(least, greatest))).toArray();
    }

    // ---- a refused call

    private static void refused(Recipe recipe, String what, Class<? extends RuntimeException> due, Call call) {
        PlateauBench x = recipe.make();
        Check.fails(recipe + ": " + what, due, () -> call.on(x));
        unchanged(recipe, what, x);
    }

    private static void unchanged(Recipe recipe, String what, PlateauBench x) {
        String twin = STATES.computeIfAbsent(recipe, r -> State.of(r.make()));
        Check.due(recipe + ": " + what + ", all behind it", State.of(x), twin);
    }

    private static void each(int[] firsts, Class<? extends RuntimeException> due, One call) {
        for (Recipe recipe : Recipe.values()) {
            for (int first : firsts) {
                refused(recipe, "the call with " + first, due, x -> call.on(x, first));
            }
        }
    }

    private static void each(int[] firsts, int[] seconds, Class<? extends RuntimeException> due, Two call) {
        for (Recipe recipe : Recipe.values()) {
            for (int first : firsts) {
                for (int second : seconds) {
                    refused(recipe, "the call with " + first + ", " + second, due, x -> call.on(x, first, second));
                }
            }
        }
    }

    // ---- the grid

    private static void ofTheGrid() {
        Check.says(2, "Throws `IllegalArgumentException` if an argument is out of range");
        each(outside(0, 1), around(1, 9), OUT, PlateauBench::cost);
        each(ends(0, 1), outside(1, 9), OUT, PlateauBench::cost);
        Check.says(3, "Throws `IndexOutOfBoundsException` if there is no such EDGE");
        each(NO_EDGE, ends(0, 50), NO_SUCH, PlateauBench::lay);
        Check.says(3, "Throws `IllegalArgumentException` if cost is out of range");
        each(new int[] {0, 7, 59}, outside(0, 50), OUT, PlateauBench::lay);
        Check.says(4, "Throws `IndexOutOfBoundsException` if there is no such EDGE");
        each(NO_EDGE, NO_SUCH, PlateauBench::edge);
        Check.says(5, "Throws `IndexOutOfBoundsException` if there is no such NODE");
        each(NO_NODE, around(0, 35), NO_SUCH, PlateauBench::apart);
        each(ends(0, 35), NO_NODE, NO_SUCH, PlateauBench::apart);
    }

    // ---- nets

    private static void ofTowns() {
        Check.says(6, "Throws `IndexOutOfBoundsException` if there is no such NODE");
        each(NO_NODE, NO_SUCH, PlateauBench::town);
        Check.says(6, "Throws `IllegalStateException` if there is one, or there are 6");
        for (int node : new int[] {0, 5, 33}) {
            refused(Recipe.BUSY, "a second town at " + node, STATE, x -> x.town(node));
        }
        for (int node = 0; node < 36; node++) {
            int at = node;
            refused(Recipe.FULL, "a seventh town at " + at, STATE, x -> x.town(at));
        }
        int[] towns = {0, 3, 6};
        for (Recipe recipe : Recipe.values()) {
            for (int number : outside(0, towns[recipe.ordinal()] - 1)) {
                Check.says(7, "Throws `IndexOutOfBoundsException` if there is no such TOWN");
                refused(recipe, "away with " + number, NO_SUCH, x -> x.away(number));
                Check.says(8, "Throws `IndexOutOfBoundsException` if there is no such TOWN");
                refused(recipe, "the node of " + number, NO_SUCH, x -> x.townAt(number));
            }
        }
        Check.says(13, "Throws `IndexOutOfBoundsException` if there is no such EDGE");
        each(NO_EDGE, NO_SUCH, PlateauBench::isUsed);
    }

    private static void ofTwoWays() {
        Check.says(14, "Throws `IndexOutOfBoundsException` if there is no such NODE");
        each(NO_NODE, ends(0, 35), NO_SUCH, PlateauBench::twoWays);
        each(ends(0, 35), NO_NODE, NO_SUCH, PlateauBench::twoWays);
        Check.says(14, "Throws `IllegalArgumentException` if both are the same");
        each(IntStream.range(0, 36).toArray(), OUT, (x, node) -> x.twoWays(node, node));
    }

    // ---- films

    private static void ofFilms() {
        Check.says(15, "Throws `IndexOutOfBoundsException` if there is no such NODE");
        each(NO_NODE, new int[] {0, 1, 2}, NO_SUCH, PlateauBench::pin);
        Check.says(15, "Throws `IllegalArgumentException` if as is out of range");
        each(new int[] {0, 1, 34, 35}, outside(0, 2), OUT, PlateauBench::pin);
        Check.says(19, "Throws `IllegalArgumentException` if it has a bit that is no NODE");
        for (Recipe recipe : Recipe.values()) {
            for (int bit = 36; bit < 64; bit++) {
                long alone = 1L << bit;
                refusedFilm(recipe, alone);
                refusedFilm(recipe, alone | Recipe.ALL_NODES);
                refusedFilm(recipe, alone | recipe.make().side(true));
            }
            refusedFilm(recipe, -1L);
            refusedFilm(recipe, Long.MAX_VALUE);
            refusedFilm(recipe, Integer.MIN_VALUE);
            refusedFilm(recipe, ~Recipe.ALL_NODES);
        }
    }

    private static void refusedFilm(Recipe recipe, long film) {
        refused(recipe, "what " + Long.toHexString(film) + " costs", OUT, x -> x.costOf(film));
    }

    // ---- the foam

    private static void ofTheFoam() {
        Check.says(20, "Throws `IndexOutOfBoundsException` if there is no such NODE or BUBBLE");
        each(NO_NODE, around(0, 7), NO_SUCH, PlateauBench::pull);
        each(ends(0, 35), NO_BUBBLE, NO_SUCH, PlateauBench::pull);
        Check.says(21, "Throws `IndexOutOfBoundsException` if there is no such BUBBLE");
        each(NO_BUBBLE, NO_SUCH, (x, bubble) -> x.hold(bubble, true));
        each(NO_BUBBLE, NO_SUCH, (x, bubble) -> x.hold(bubble, false));
        Check.says(22, "Throws `IllegalArgumentException` if breaths are out of range");
        each(outside(1, 100), OUT, PlateauBench::breathe);
        Check.says(23, "Throws `IndexOutOfBoundsException` if there is no such NODE");
        each(NO_NODE, NO_SUCH, PlateauBench::bubbleAt);
        Check.says(24, "Throws `IndexOutOfBoundsException` if there is no such BUBBLE");
        each(NO_BUBBLE, new int[] {0, 1, 2, 3, 4}, NO_SUCH, PlateauBench::bubble);
        Check.says(24, "Throws `IllegalArgumentException` if what is out of range");
        each(ends(0, 7), outside(0, 4), OUT, PlateauBench::bubble);
        Check.says(25, "Throws `IndexOutOfBoundsException` if there is no such BUBBLE");
        each(NO_BUBBLE, around(0, 7), NO_SUCH, PlateauBench::wall);
        each(ends(0, 7), NO_BUBBLE, NO_SUCH, PlateauBench::wall);
        Check.says(26, "Throws `IllegalArgumentException` if kinds are out of range");
        each(outside(1, 4), OUT, PlateauBench::corners);
        Check.says(28, "Throws `IllegalArgumentException` if what is out of range");
        each(outside(0, 4), OUT, PlateauBench::energy);
    }

    // ---- all of it

    private static void eachKindHasItsException() {
        Check.says("The foam", "An IndexOutOfBoundsException is thrown if there is no such NODE, EDGE, TOWN or BUBBLE");
        refused(Recipe.BUSY, "no such node", NO_SUCH, x -> x.bubbleAt(36));
        refused(Recipe.BUSY, "no such edge", NO_SUCH, x -> x.edge(60));
        refused(Recipe.BUSY, "no such town", NO_SUCH, x -> x.townAt(3));
        refused(Recipe.BUSY, "no such bubble", NO_SUCH, x -> x.wall(0, 8));
        refused(Recipe.BUSY, "another argument", OUT, x -> x.corners(5));
        refused(Recipe.BUSY, "a town that is there", STATE, x -> x.town(0));
        refused(Recipe.FULL, "six towns that are there", STATE, x -> x.town(1));
    }

    private static void theFirstListedGoesFirst() {
        Check.says("The foam", "If several exceptions of a throws clause apply, the one that is listed first is thrown.");
        each(NO_EDGE, outside(0, 50), NO_SUCH, PlateauBench::lay);
        // On the full bench there are six towns, too.
        each(NO_NODE, NO_SUCH, PlateauBench::town);
        each(NO_NODE, NO_NODE, NO_SUCH, PlateauBench::twoWays);
        each(NO_NODE, outside(0, 2), NO_SUCH, PlateauBench::pin);
        each(NO_BUBBLE, outside(0, 4), NO_SUCH, PlateauBench::bubble);
    }

    /** One alone is looked at in each refusal above; here they come one behind the other. */
    private static void manyRefusedCallsChangeNothing() {
        Check.says("The foam", "A call of a method that throws an exception changes nothing.");
        for (Recipe recipe : Recipe.values()) {
            PlateauBench x = recipe.make();
            Check.fails("cost", OUT, () -> x.cost(1, 10));
            Check.fails("cost of no direction", OUT, () -> x.cost(2, 9));
            Check.fails("lay", OUT, () -> x.lay(59, 51));
            Check.fails("lay on no edge", NO_SUCH, () -> x.lay(60, 50));
            Check.fails("town", NO_SUCH, () -> x.town(36));
            Check.fails("away", NO_SUCH, () -> x.away(6));
            Check.fails("away with -1", NO_SUCH, () -> x.away(-1));
            Check.fails("pin", OUT, () -> x.pin(35, 3));
            Check.fails("pin no node", NO_SUCH, () -> x.pin(36, 2));
            Check.fails("pull", NO_SUCH, () -> x.pull(35, 8));
            Check.fails("pull no node", NO_SUCH, () -> x.pull(36, 7));
            Check.fails("hold", NO_SUCH, () -> x.hold(8, true));
            Check.fails("let go", NO_SUCH, () -> x.hold(-1, false));
            Check.fails("breathe", OUT, () -> x.breathe(101));
            Check.fails("breathe not", OUT, () -> x.breathe(0));
            Check.fails("two ways", OUT, () -> x.twoWays(35, 35));
            Check.fails("what a film costs", OUT, () -> x.costOf(1L << 36));
            Check.fails("energy", OUT, () -> x.energy(5));
            unchanged(recipe, "all of these", x);
        }
    }

    /** What would breathe, or goes through nets and films, does so beside what the bench holds. */
    private static void whatIsOnlyAskedChangesNothing() {
        Check.says("What is only asked changes nothing");
        for (Recipe recipe : Recipe.values()) {
            asked(recipe, "rests", PlateauBench::rests);
            asked(recipe, "the energy at rest", x -> x.energy(1));
            asked(recipe, "the cheapest nets", x -> x.least() + x.leastAnew() + x.bound() + x.gap());
            asked(recipe, "an edge in use", x -> x.isUsed(59));
            asked(recipe, "ways", x -> x.apart(35, 0) + x.twoWays(30, 5));
            asked(recipe, "films", x -> x.film() + x.proof() + x.side(true) + x.side(false) + x.costOf(0L));
            asked(recipe, "bubbles", x -> x.bubble(0, 1) + x.bubble(0, 3) + x.wall(0, 1) + x.corners(2));
        }
    }

    private static void asked(Recipe recipe, String what, Call call) {
        PlateauBench x = recipe.make();
        call.on(x);
        unchanged(recipe, what, x);
    }
}
