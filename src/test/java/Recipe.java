/** Benches to begin with, each made anew by the same calls, so that a bench can be compared with its twin. */
enum Recipe {
    FRESH {
        @Override
        PlateauBench make() {
            return new PlateauBench();
        }
    },
    /** Something of everything, and a foam that two more breaths would change. */
    BUSY {
        @Override
        PlateauBench make() {
            PlateauBench x = withTowns(0, 5, 33);
            x.cost(1, 3);
            x.lay(7, 4);
            x.lay(40, 11);
            x.pin(1, 1);
            x.pin(34, 2);
            spike(x);
            x.pull(35, 6);
            x.hold(6, true);
            x.breathe(1);
            return x;
        }
    },
    /** Six towns, all edges at their dearest, each node pinned, all bubbles there and held. */
    FULL {
        @Override
        PlateauBench make() {
            PlateauBench x = withTowns(35, 0, 30, 5, 14, 21);
            dearest(x);
            for (int node = 0; node < 36; node++) {
                x.pin(node, isWhite(node) ? 1 : 2);
                x.pull(node, node * 5 % 8);
            }
            for (int bubble = 0; bubble < 8; bubble++) {
                x.hold(bubble, true);
            }
            return x;
        }
    };

    static final long ALL_NODES = (1L << 36) - 1;

    abstract PlateauBench make();

    static PlateauBench withTowns(int... nodes) {
        PlateauBench x = new PlateauBench();
        for (int node : nodes) {
            x.town(node);
        }
        return x;
    }

    static PlateauBench pinned(int inside, int outside) {
        PlateauBench x = new PlateauBench();
        x.pin(inside, 1);
        x.pin(outside, 2);
        return x;
    }

    /** A block of four at the left rim with a spike of three, which shrinks by one node a breath. */
    static PlateauBench spike(PlateauBench x) {
        for (int node : new int[] {12, 13, 18, 19, 14, 15, 16}) {
            x.pull(node, 1);
        }
        return x;
    }

    /** All edges at 59, by 62 calls. */
    static PlateauBench dearest(PlateauBench x) {
        x.cost(0, 9);
        x.cost(1, 9);
        for (int edge = 0; edge < 60; edge++) {
            x.lay(edge, 50);
        }
        return x;
    }

    /** All edges at 51 but some at 1, by 60 calls. */
    static PlateauBench cheapOnly(PlateauBench x, int... edges) {
        boolean[] isCheap = new boolean[60];
        for (int edge : edges) {
            isCheap[edge] = true;
        }
        for (int edge = 0; edge < 60; edge++) {
            x.lay(edge, isCheap[edge] ? 0 : 50);
        }
        return x;
    }

    /** Like the white squares of a chessboard; node 0 is one. */
    static boolean isWhite(int node) {
        return (node / 6 + node % 6) % 2 == 0;
    }

    static long bit(int node) {
        return 1L << node;
    }
}
