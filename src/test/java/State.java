/**
 * All that tells two benches apart, as one text. What no call tells without changing it is read last,
 * so the bench is used up; some 295 calls, which leaves some 210 of the promised 512 to who made the bench.
 */
final class State {
    private State() {
    }

    static String of(PlateauBench x) {
        StringBuilder text = new StringBuilder();
        appendNets(text, x);
        appendFilms(text, x);
        appendFoam(text, x);
        appendGridAndPins(text, x);
        return text.toString();
    }

    private static void appendNets(StringBuilder text, PlateauBench x) {
        for (int town = 0; town < 6; town++) {
            try {
                text.append(x.townAt(town)).append(' ');
            } catch (IndexOutOfBoundsException e) {
                text.append("- ");
            }
        }
        text.append("least ").append(x.least()).append(' ').append(x.leastAnew());
        text.append(" bound ").append(x.bound()).append(' ').append(x.gap());
        text.append(" ways ").append(x.apart(0, 35)).append(' ').append(x.twoWays(5, 30));
        text.append(" edges");
        for (int edge = 0; edge < 60; edge++) {
            text.append(' ').append(x.edge(edge)).append(x.isUsed(edge) ? "+" : "");
        }
    }

    private static void appendFilms(StringBuilder text, PlateauBench x) {
        text.append(" film ").append(x.film()).append(' ').append(x.proof());
        text.append(' ').append(x.side(false)).append(' ').append(x.side(true));
        text.append(' ').append(x.costOf(0L)).append(' ').append(x.costOf(Recipe.ALL_NODES));
    }

    private static void appendFoam(StringBuilder text, PlateauBench x) {
        text.append(" foam ");
        for (int node = 0; node < 36; node++) {
            text.append(x.bubbleAt(node));
        }
        text.append(" held");
        for (int bubble = 0; bubble < 8; bubble++) {
            text.append(' ').append(x.bubble(bubble, 4)).append(' ').append(x.bubble(bubble, 2));
        }
        text.append(" energy");
        for (int what = 0; what < 5; what++) {
            text.append(' ').append(x.energy(what));
        }
        text.append(" rests ").append(x.rests()).append(" corners ").append(x.corners(2));
    }

    private static void appendGridAndPins(StringBuilder text, PlateauBench x) {
        text.append(" pins ");
        for (int node = 0; node < 36; node++) {
            text.append(x.pin(node, 0));
        }
        text.append(" directions ").append(x.cost(0, 1)).append(' ').append(x.cost(1, 1)).append(" laid");
        for (int edge = 0; edge < 60; edge++) {
            text.append(' ').append(x.lay(edge, 0));
        }
    }
}
