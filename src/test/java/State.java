/** All that an object answers without being changed by it, as one text. */
final class State {
    private State() {
    }

    static String of(PlateauBench x) {
        StringBuilder text = new StringBuilder();
        appendGrid(text, x);
        appendNets(text, x);
        appendFilms(text, x);
        appendFoam(text, x);
        return text.toString();
    }

    private static void appendGrid(StringBuilder text, PlateauBench x) {
        for (int edge = 0; edge < 60; edge++) {
            text.append(x.edge(edge)).append(x.isUsed(edge) ? '+' : ' ');
        }
    }

    private static void appendNets(StringBuilder text, PlateauBench x) {
        for (int town = 0; town < 6; town++) {
            try {
                text.append(x.townAt(town)).append(' ');
            } catch (IndexOutOfBoundsException e) {
                text.append("- ");
            }
        }
        text.append(x.least()).append(' ').append(x.bound()).append(' ').append(x.leastAnew()).append(' ');
        text.append(x.apart(0, 35)).append(' ').append(x.twoWays(5, 30)).append(' ');
    }

    private static void appendFilms(StringBuilder text, PlateauBench x) {
        text.append(x.film()).append(' ').append(x.side(false)).append(' ').append(x.side(true)).append(' ');
        // A film of one node, or of all but one, tells how each node is pinned as far as a film does.
        for (int node = 0; node < 36; node++) {
            text.append(x.costOf(1L << node)).append(' ').append(x.costOf((1L << 36) - 1 - (1L << node))).append(' ');
        }
    }

    private static void appendFoam(StringBuilder text, PlateauBench x) {
        for (int node = 0; node < 36; node++) {
            text.append(x.bubbleAt(node));
        }
        for (int bubble = 0; bubble < 8; bubble++) {
            text.append(' ').append(x.bubble(bubble, 4));
        }
        for (int what = 0; what < 5; what++) {
            text.append(' ').append(x.energy(what));
        }
        text.append(' ').append(x.rests());
    }
}
