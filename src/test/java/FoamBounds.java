/** The foam where it ends: one bubble or all eight, none or all held, at rest or long before it, walls at their dearest. */
final class FoamBounds {
    private FoamBounds() {
    }

    static void all() {
        bubblesAtFirst();
        pullsOfEachNode();
        pullsToEachBubble();
        pullsToTheSame();
        pullsAndHeldBubbles();
        holds();
        heldBubblesLoseNone();
        heldBubblesGetNone();
        allBubblesHeld();
        breathEnds();
        breathsInOrder();
        breathsToTheLowest();
        breathsToTheCheapest();
        breathsNeedLess();
        breathsLookBesideAlone();
        breathsAndHeldBubbles();
        breathsOfHeldNodes();
        restAtOnce();
        restBehindOneBreath();
        restBehindManyBreaths();
        breathsCountEachTime();
        bubblesOfNoNode();
        bubblesOfAllNodes();
        bubblesInPieces();
        bubblesAmongOthers();
        bubblesHeld();
        wallEnds();
        cornerEnds();
        cornersOfEachKind();
        energyEnds();
        energyAtRest();
        workAndLost();
        workAndLostInTheLongRun();
        energyBalance();
    }

    private static PlateauBench pulled(int... nodesAndBubbles) {
        PlateauBench x = new PlateauBench();
        for (int i = 0; i < nodesAndBubbles.length; i += 2) {
            x.pull(nodesAndBubbles[i], nodesAndBubbles[i + 1]);
        }
        return x;
    }

    private static void foam(PlateauBench x, String due) {
        StringBuilder text = new StringBuilder();
        for (int node = 0; node < 36; node++) {
            text.append(node > 0 && node % 6 == 0 ? " " : "").append(x.bubbleAt(node));
        }
        Check.due("the foam", text, due);
    }

    private static PlateauBench foamOf(String rows) {
        PlateauBench x = new PlateauBench();
        String bubbles = rows.replace(" ", "");
        for (int node = 0; node < 36; node++) {
            x.pull(node, bubbles.charAt(node) - '0');
        }
        return x;
    }

    // ---- pull

    private static void bubblesAtFirst() {
        Check.says("The foam", "Each NODE belongs to one of the BUBBLES 0 to 7, all to the BUBBLE 0 at first.");
        foam(new PlateauBench(), "000000 000000 000000 000000 000000 000000");
        foam(foamOf("012345 670123 456701 234567 012345 670123"), "012345 670123 456701 234567 012345 670123");
    }

    private static void pullsOfEachNode() {
        for (int node = 0; node < 36; node++) {
            PlateauBench x = new PlateauBench();
            x.pull(node, 7);
            for (int other = 0; other < 36; other++) {
                Check.says(20, "`node`: 0 to 35");
                Check.due("node " + other + " behind a pull at " + node, x.bubbleAt(other), other == node ? 7 : 0);
            }
        }
        PlateauBench x = pulled(0, 7, 35, 1);
        Check.says(23, "`node`: 0 to 35");
        Check.due("the first", x.bubbleAt(0), 7);
        Check.due("behind the first", x.bubbleAt(1), 0);
        Check.due("before the last", x.bubbleAt(34), 0);
        Check.due("the last", x.bubbleAt(35), 1);
        Check.says(23, "Returns the BUBBLE to which a NODE belongs.");
        x.pull(35, 2);
        Check.due("behind one more pull", x.bubbleAt(35), 2);
    }

    private static void pullsToEachBubble() {
        PlateauBench x = new PlateauBench();
        int before = 0;
        for (int bubble : new int[] {7, 6, 5, 4, 3, 2, 1, 0, 7, 0}) {
            Check.says(20, "Returns that to which it belonged.");
            Check.due("before " + bubble, x.pull(14, bubble), before);
            Check.says(20, "`bubble`: 0 to 7");
            Check.due("behind the pull", x.bubbleAt(14), bubble);
            Check.due("the energy", x.energy(0), bubble == 0 ? 0 : 4);
            before = bubble;
        }
    }

    private static void pullsToTheSame() {
        Check.says(20, "Returns that to which it belonged.");
        PlateauBench x = pulled(14, 3);
        Check.due("to the bubble that it belongs to", x.pull(14, 3), 3);
        Check.due("of the bubble 0 to it", x.pull(0, 0), 0);
        Check.due("the energy", x.energy(0), 4);
        Check.due("the work", x.energy(2), 4);
    }

    private static void pullsAndHeldBubbles() {
        Check.says(20, "Lets a NODE belong to a BUBBLE, also of or to a HELD one.");
        PlateauBench x = new PlateauBench();
        for (int bubble = 0; bubble < 8; bubble++) {
            x.hold(bubble, true);
        }
        Check.due("of a held one, to a held one", x.pull(0, 7), 0);
        Check.due("the same", x.pull(0, 7), 7);
        x.hold(7, false);
        Check.due("of one that is not, to a held one", x.pull(0, 6), 7);
        Check.due("of a held one, to one that is not", x.pull(0, 7), 6);
        Check.due("where it is", x.bubbleAt(0), 7);
        Check.due("held still", x.bubble(6, 4) + x.bubble(0, 4) + x.bubble(7, 4), 2);
    }

    // ---- hold

    private static void holds() {
        for (int bubble = 0; bubble < 8; bubble++) {
            PlateauBench x = new PlateauBench();
            Check.says(21, "Returns whether it was.");
            Check.due("let go at first", x.hold(bubble, false), false);
            Check.due("held", x.hold(bubble, true), false);
            Check.due("held again", x.hold(bubble, true), true);
            for (int other = 0; other < 8; other++) {
                Check.says(21, "`bubble`: 0 to 7");
                Check.due("whether " + other + " is", x.bubble(other, 4), other == bubble ? 1 : 0);
            }
            Check.says(21, "`is`: whether it is from now on");
            Check.due("let go", x.hold(bubble, false), true);
            Check.due("let go again", x.hold(bubble, false), false);
            Check.says(21, "Tells whether a BUBBLE is HELD.");
            Check.due("whether it is", x.bubble(bubble, 4), 0);
        }
    }

    private static final String HELD = "A BUBBLE may be HELD: it loses and gets no NODES by breaths.";

    private static void heldBubblesLoseNone() {
        Check.says("The foam", HELD);
        PlateauBench x = pulled(0, 7, 14, 7, 35, 7);
        x.hold(7, true);
        Check.due("rests", x.rests(), 0);
        Check.due("what came elsewhere", x.breathe(100), 0);
        Check.due("nodes", x.bubble(7, 0), 3);
        x.hold(7, false);
        Check.due("what came elsewhere when let go", x.breathe(1), 3);
        Check.due("no nodes", x.bubble(7, 0), 0);
    }

    private static void heldBubblesGetNone() {
        Check.says("The foam", HELD);
        PlateauBench x = pulled(0, 7, 14, 7, 35, 7);
        x.hold(0, true);
        Check.due("rests", x.rests(), 0);
        Check.due("what came to it", x.breathe(100), 0);
        Check.due("nodes", x.bubble(0, 0), 33);
        x.hold(0, false);
        Check.due("what came to it when let go", x.breathe(100), 3);
    }

    private static void allBubblesHeld() {
        Check.says("The foam", HELD);
        PlateauBench x = foamOf("012345 670123 456701 234567 012345 670123");
        for (int bubble = 0; bubble < 8; bubble++) {
            x.hold(bubble, true);
        }
        Check.due("rests", x.rests(), 0);
        Check.due("breathe", x.breathe(100), 0);
        Check.due("the energy at rest", x.energy(1), x.energy(0));
        Check.due("lost", x.energy(3), 0);
        foam(x, "012345 670123 456701 234567 012345 670123");
    }

    // ---- breathe

    private static final String BREATH = "In a breath each NODE, by rising numbers, one behind the other";

    private static void breathEnds() {
        Check.says(22, "`breaths`: 1 to 100");
        PlateauBench x = Recipe.spike(new PlateauBench());
        Check.due("one", x.breathe(1), 1);
        Check.due("a hundred", x.breathe(100), 2);
        Check.due("a hundred at rest", x.breathe(100), 0);
        Check.due("one at rest", x.breathe(1), 0);
        Check.says(22, "Returns how often a NODE came to another BUBBLE in them.");
        Check.due("in a foam of one bubble", new PlateauBench().breathe(100), 0);
        Check.due("each node that is alone", pulled(0, 1, 35, 2, 14, 3, 16, 3).breathe(1), 4);
        Check.says(22, "Lets some breaths go.");
        PlateauBench two = Recipe.spike(new PlateauBench());
        Check.due("two at once", two.breathe(2), 2);
        foam(two, "000000 000000 111000 110000 000000 000000");
        PlateauBench ones = Recipe.spike(new PlateauBench());
        Check.due("two, one by one", ones.breathe(1) + ones.breathe(1), 2);
        foam(ones, "000000 000000 111000 110000 000000 000000");
    }

    private static void breathsInOrder() {
        Check.says("The foam", BREATH);
        // Each node of a row sees what the one before it has just done, but not what the one behind it will do.
        PlateauBench row = foamOf("000000 000000 111111 000000 000000 000000");
        Check.due("a row", row.breathe(1), 6);
        PlateauBench column = foamOf("001000 001000 001000 001000 001000 001000");
        Check.due("a column", column.breathe(1), 6);
        PlateauBench toTheRight = foamOf("000000 000000 111000 110000 000000 000000");
        Check.due("a spike to the right, of one node", toTheRight.breathe(1), 1);
        foam(toTheRight, "000000 000000 110000 110000 000000 000000");
        PlateauBench toTheLeft = foamOf("000000 000000 011111 000011 000000 000000");
        Check.due("a spike to the left, of three", toTheLeft.breathe(1), 3);
        foam(toTheLeft, "000000 000000 000011 000011 000000 000000");
        PlateauBench upwards = foamOf("000000 100000 100000 110000 110000 000000");
        Check.due("a spike upwards, of two", upwards.breathe(1), 2);
        foam(upwards, "000000 000000 000000 110000 110000 000000");
        PlateauBench downwards = foamOf("110000 110000 100000 100000 100000 000000");
        Check.due("a spike downwards, of three, its tip", downwards.breathe(1), 1);
        foam(downwards, "110000 110000 100000 100000 000000 000000");
    }

    /** Four bubbles about the node 14, which stays as it is until that node looks at them. */
    private static PlateauBench cross(int own, int up, int left, int right, int down) {
        StringBuilder rows = new StringBuilder();
        rows.append(String.valueOf(up).repeat(12)).append(left).append(left).append(own);
        rows.append(String.valueOf(right).repeat(3)).append(String.valueOf(down).repeat(18));
        return foamOf(rows.toString());
    }

    private static int behindABreath(PlateauBench x) {
        x.breathe(1);
        return x.bubbleAt(14);
    }

    private static void breathsToTheLowest() {
        Check.says("The foam", BREATH);
        int[] four = {1, 3, 5, 6};
        for (int i = 0; i < 256; i++) {
            int up = four[i & 3];
            int left = four[i >> 2 & 3];
            int right = four[i >> 4 & 3];
            int down = four[i >> 6];
            boolean isEachOnce = (1 << up | 1 << left | 1 << right | 1 << down) == 0b1101010;
            if (isEachOnce) {
                Check.due("out of the highest, " + i, behindABreath(cross(7, up, left, right, down)), 1);
                Check.due("out of the lowest, " + i, behindABreath(cross(0, up, left, right, down)), 1);
                Check.due("out of one between, " + i, behindABreath(cross(4, up, left, right, down)), 1);
            }
        }
        Check.due("0 is the lowest", behindABreath(cross(1, 7, 5, 0, 6)), 0);
        Check.due("0 is the lowest, above", behindABreath(cross(7, 0, 1, 2, 3)), 0);
        Check.due("7 is the highest", behindABreath(cross(0, 7, 6, 7, 7)), 7);
    }

    private static void breathsToTheCheapest() {
        Check.says("The foam", BREATH);
        // The node's edges: 38 up, 11 left, 12 right, 44 down.
        int[] edges = {38, 11, 12, 44};
        int[] bubbles = {3, 1, 5, 6};
        for (int i = 0; i < 4; i++) {
            PlateauBench x = cross(7, bubbles[0], bubbles[1], bubbles[2], bubbles[3]);
            // So that the node to the left stays what it is.
            x.lay(10, 9);
            x.lay(edges[i], 1);
            Check.due("the dearest wall by 1 goes, " + i, behindABreath(x), bubbles[i]);
        }
        PlateauBench two = cross(7, 3, 1, 5, 6);
        two.lay(38, 1);
        two.lay(12, 1);
        Check.due("of two that are the dearest the lower one", behindABreath(two), 3);
        PlateauBench both = cross(7, 5, 1, 2, 5);
        both.hold(1, true);
        Check.due("two edges to one bubble are more than one", behindABreath(both), 5);
        both = cross(7, 5, 1, 2, 5);
        both.hold(1, true);
        both.lay(12, 1);
        Check.due("or as much as one at 2", behindABreath(both), 2);
        both = cross(7, 2, 1, 5, 2);
        both.hold(1, true);
        both.lay(12, 1);
        Check.due("and then the lower one, which has both", behindABreath(both), 2);
    }

    private static void breathsNeedLess() {
        Check.says("The foam", BREATH);
        Check.due("as much as the lower ones", behindABreath(cross(7, 3, 4, 7, 5)), 7);
        Check.due("as much as the higher ones", behindABreath(cross(1, 3, 4, 1, 5)), 1);
        PlateauBench x = cross(7, 3, 4, 7, 5);
        x.lay(38, 1);
        Check.due("less by 1", behindABreath(x), 3);
        PlateauBench y = cross(7, 3, 4, 7, 5);
        y.lay(12, 1);
        Check.due("more by 1", behindABreath(y), 7);
        Check.due("more than as much", behindABreath(cross(7, 3, 7, 7, 5)), 7);
    }

    private static void breathsLookBesideAlone() {
        Check.says("The foam", BREATH);
        // The end of a row is not beside the next one's start, the last row not beside the first.
        PlateauBench x = foamOf("000002 200000 000000 000000 000000 000000");
        Check.due("both go", x.breathe(1), 2);
        PlateauBench y = foamOf("010000 000000 000000 000000 000000 010000");
        Check.due("both go", y.breathe(1), 2);
        PlateauBench z = foamOf("000000 010000 001000 000000 000000 000000");
        Check.due("both go", z.breathe(1), 2);
    }

    private static void breathsAndHeldBubbles() {
        Check.says("The foam", BREATH);
        int[] bubbles = {1, 3, 5, 6};
        for (int mask = 0; mask < 16; mask++) {
            PlateauBench x = cross(7, 1, 3, 5, 6);
            int due = 7;
            for (int i = 3; i >= 0; i--) {
                boolean is = (mask >> i & 1) != 0;
                x.hold(bubbles[i], is);
                due = is ? due : bubbles[i];
            }
            Check.due("the lowest that is not held, " + mask, behindABreath(x), due);
        }
        PlateauBench dear = cross(7, 1, 3, 5, 6);
        dear.lay(38, 50);
        dear.hold(1, true);
        Check.due("not the cheapest, as it is held", behindABreath(dear), 3);
        // The wall to a held bubble costs the same with each; with 5 one less than with 7 is left of the others.
        PlateauBench walls = cross(7, 1, 7, 5, 5);
        walls.lay(38, 50);
        walls.hold(1, true);
        Check.due("a wall to a held one", behindABreath(walls), 5);
        walls = cross(7, 1, 7, 5, 6);
        walls.lay(38, 50);
        walls.hold(1, true);
        Check.due("a wall to a held one, and as much with the others", behindABreath(walls), 7);
    }

    private static void breathsOfHeldNodes() {
        Check.says("The foam", BREATH);
        PlateauBench x = cross(7, 1, 3, 5, 6);
        x.hold(7, true);
        Check.due("it stays", behindABreath(x), 7);
        x.hold(7, false);
        Check.due("it goes when let go", behindABreath(x), 1);
        PlateauBench low = cross(0, 1, 3, 5, 6);
        low.hold(0, true);
        Check.due("the lowest stays", behindABreath(low), 0);
    }

    // ---- rest

    private static void restAtOnce() {
        Check.says(27, "Returns 0 if it RESTS.");
        Check.due("one bubble", new PlateauBench().rests(), 0);
        Check.due("a block", foamOf("000000 000000 001100 001100 000000 000000").rests(), 0);
        Check.due("two halves", foamOf("111111 111111 111111 777777 777777 777777").rests(), 0);
        Check.says("The foam", "The foam RESTS if a breath would change nothing.");
        PlateauBench x = foamOf("111111 111111 111111 777777 777777 777777");
        Check.due("a breath", x.breathe(1), 0);
        foam(x, "111111 111111 111111 777777 777777 777777");
    }

    private static void restBehindOneBreath() {
        Check.says(27, "Returns behind how many breaths from now on the foam would REST.");
        PlateauBench x = pulled(35, 7);
        Check.due("one node", x.rests(), 1);
        Check.due("again, as it has not breathed", x.rests(), 1);
        Check.due("the node", x.bubbleAt(35), 7);
        x.hold(0, true);
        Check.due("held", x.rests(), 0);
        x.hold(0, false);
        Check.due("let go", x.rests(), 1);
        x.breathe(1);
        Check.due("behind it", x.rests(), 0);
    }

    // A foam, drawn and bettered by trial, that rests behind as many breaths as could be found.
    private static PlateauBench slow() {
        PlateauBench x = foamOf("222202 101102 201202 201212 001012 222220");
        int[] laid = {
            9, 20, 22, 46, 34, 23, 9, 13, 42, 22, 37, 36, 35, 34, 24, 25, 27, 2, 49, 37, 16, 28, 49, 14, 34, 26, 20, 30, 43, 31,
            5, 2, 12, 47, 48, 14, 40, 0, 1, 23, 30, 34, 7, 17, 17, 39, 41, 27, 28, 5, 23, 5, 48, 40, 23, 7, 10, 29, 13, 48,
        };
        for (int edge = 0; edge < 60; edge++) {
            x.lay(edge, laid[edge]);
        }
        x.cost(1, 2);
        return x;
    }

    private static void breathsCountEachTime() {
        Check.says(22, "Returns how often a NODE came to another BUBBLE in them.");
        PlateauBench x = slow();
        int changes = 0;
        int[] times = new int[36];
        for (int i = 0; i < 2; i++) {
            int[] before = new int[36];
            for (int node = 0; node < 36; node++) {
                before[node] = x.bubbleAt(node);
            }
            x.breathe(1);
            for (int node = 0; node < 36; node++) {
                boolean is = x.bubbleAt(node) != before[node];
                times[node] += is ? 1 : 0;
                changes += is ? 1 : 0;
            }
        }
        int often = 0;
        for (int of : times) {
            often = Math.max(often, of);
        }
        Check.due("a node that comes elsewhere twice", often, 2);
        Check.due("in two breaths", slow().breathe(2), changes);
        int singles = 0;
        PlateauBench y = slow();
        for (int i = 0; i < 25; i++) {
            singles += y.breathe(1);
        }
        Check.due("in all breaths", slow().breathe(100), singles);
    }

    private static void restBehindManyBreaths() {
        Check.says(27, "Returns behind how many breaths from now on the foam would REST.");
        PlateauBench x = slow();
        for (int left = 22; left > 0; left--) {
            Check.due("breaths", x.rests(), left);
            Check.due("a breath changes something", x.breathe(1) > 0, true);
        }
        Check.due("at rest", x.rests(), 0);
        Check.due("a breath changes nothing", x.breathe(1), 0);
        PlateauBench y = slow();
        int atRest = y.energy(1);
        y.breathe(100);
        Check.due("the same by a hundred", State.of(y), State.of(bySingleBreaths()));
        Check.due("the energy that was told before", x.energy(0), atRest);
    }

    private static PlateauBench bySingleBreaths() {
        PlateauBench x = slow();
        for (int i = 0; i < 25; i++) {
            x.breathe(1);
        }
        return x;
    }

    // ---- bubbles

    private static void tells(PlateauBench x, int bubble, int... due) {
        Check.says(24, "`what`: 0 how many NODES it has, 1 in how many pieces they are");
        for (int what = 0; what < 5; what++) {
            Check.due("of bubble " + bubble + ", " + what, x.bubble(bubble, what), due[what]);
        }
    }

    private static void bubblesOfNoNode() {
        PlateauBench x = new PlateauBench();
        for (int bubble = 1; bubble < 8; bubble++) {
            Check.says(24, "`bubble`: 0 to 7");
            tells(x, bubble, 0, 0, 0, 0, 0);
        }
        x.pull(14, 7);
        tells(x, 7, 1, 1, 4, 1, 0);
        x.pull(14, 0);
        tells(x, 7, 0, 0, 0, 0, 0);
    }

    private static void bubblesOfAllNodes() {
        Check.says(24, "Tells of a BUBBLE.");
        PlateauBench x = Recipe.dearest(new PlateauBench());
        tells(x, 0, 36, 1, 0, 0, 0);
        PlateauBench y = foamOf("777777 777777 777777 777777 777777 777777");
        tells(y, 7, 36, 1, 0, 0, 0);
        tells(y, 0, 0, 0, 0, 0, 0);
    }

    private static void bubblesInPieces() {
        PlateauBench board = new PlateauBench();
        for (int node = 0; node < 36; node++) {
            board.pull(node, Recipe.isWhite(node) ? 7 : 0);
        }
        Recipe.dearest(board);
        tells(board, 7, 18, 18, 60 * 59, 1, 0);
        tells(board, 0, 18, 18, 60 * 59, 1, 0);
        tells(board, 7, 18, 18, 60 * 59, 1, 0);
        // A corner to a corner, the end of a row and the next one's start, the last row and the first: none is beside the other.
        tells(foamOf("100000 010000 000000 000000 000000 000000"), 1, 2, 2, 6, 1, 0);
        tells(foamOf("000001 100000 000000 000000 000000 000000"), 1, 2, 2, 5, 1, 0);
        tells(foamOf("100000 000000 000000 000000 000000 100000"), 1, 2, 2, 4, 1, 0);
        tells(foamOf("111111 000001 111111 100000 111111 000001"), 1, 21, 1, 28, 1, 0);
        tells(foamOf("101111 101001 101101 100101 111101 000001"), 1, 21, 1, 27, 1, 0);
    }

    private static void bubblesAmongOthers() {
        PlateauBench x = foamOf("102030 405060 700000 000000 000000 000000");
        tells(x, 0, 29, 1, 5 + 5 + 1 + 3, 7, 0);
        tells(x, 1, 1, 1, 2, 2, 0);
        PlateauBench seven = foamOf("011111 222222 333333 444444 555555 666677");
        tells(seven, 7, 2, 1, 3, 2, 0);
        tells(seven, 0, 1, 1, 2, 2, 0);
        tells(seven, 2, 6, 1, 12, 3, 0);
    }

    private static void bubblesHeld() {
        PlateauBench x = new PlateauBench();
        x.hold(0, true);
        x.hold(7, true);
        tells(x, 0, 36, 1, 0, 0, 1);
        tells(x, 7, 0, 0, 0, 0, 1);
        x.hold(0, false);
        x.pull(35, 7);
        tells(x, 0, 35, 1, 2, 1, 0);
        tells(x, 7, 1, 1, 2, 1, 1);
    }

    private static void wallEnds() {
        PlateauBench x = foamOf("770000 000000 000000 000000 000000 000003");
        x.cost(0, 2);
        x.lay(59, 50);
        Check.says("The foam", "An EDGE is a WALL if its NODES belong to different BUBBLES.");
        Check.due("within a bubble there is none", x.wall(7, 7), 0);
        Check.says(25, "`bubble`: 0 to 7");
        Check.due("of the first", x.wall(0, 7), 4);
        Check.due("of the last", x.wall(7, 0), 4);
        Check.says(25, "`other`: 0 to 7");
        Check.due("to the first", x.wall(3, 0), 53);
        Check.due("to the last", x.wall(3, 7), 0);
        Check.says(25, "Returns what the WALLS between two BUBBLES cost, together.");
        Check.due("of those that have no node", x.wall(1, 2), 0);
        Check.due("of one that has none and the first", x.wall(0, 6), 0);
        Check.due("the other way", x.wall(0, 3), 53);
        for (int bubble = 0; bubble < 8; bubble++) {
            Check.says(25, "Returns that; 0 between one and itself.");
            Check.due("between " + bubble + " and itself", x.wall(bubble, bubble), 0);
        }
        PlateauBench board = new PlateauBench();
        for (int node = 0; node < 36; node++) {
            board.pull(node, Recipe.isWhite(node) ? 7 : 0);
        }
        Check.due("all edges at the dearest", Recipe.dearest(board).wall(0, 7), 60 * 59);
    }

    // ---- corners

    private static void kinds(PlateauBench x, int... due) {
        for (int kinds = 1; kinds < 5; kinds++) {
            Check.due("of " + kinds, x.corners(kinds), due[kinds - 1]);
        }
    }

    private static void cornerEnds() {
        Check.says("The foam", "A CORNER is a block of four NODES, two by two, that are beside one another;");
        kinds(new PlateauBench(), 25, 0, 0, 0);
        for (int node = 0; node < 36; node++) {
            int blocks = (node % 6 % 5 == 0 ? 1 : 2) * (node / 6 % 5 == 0 ? 1 : 2);
            kinds(pulled(node, 7), 25 - blocks, blocks, 0, 0);
        }
        // No block holds the end of a row and the next one's start.
        kinds(pulled(5, 1, 6, 2), 22, 3, 0, 0);
        kinds(pulled(0, 7, 1, 7, 6, 7, 7, 7), 22, 3, 0, 0);
        kinds(pulled(28, 7, 29, 6, 34, 5, 35, 4), 21, 1, 2, 1);
    }

    private static void cornersOfEachKind() {
        Check.says(26, "`kinds`: 1 to 4");
        kinds(foamOf("777777 777777 777777 777777 777777 777777"), 25, 0, 0, 0);
        kinds(foamOf("070707 707070 070707 707070 070707 707070"), 0, 25, 0, 0);
        kinds(foamOf("012012 120120 201201 012012 120120 201201"), 0, 0, 25, 0);
        kinds(foamOf("070707 616161 070707 616161 070707 616161"), 0, 0, 0, 25);
        Check.says(26, "Returns how many CORNERS are of so many kinds.");
        kinds(foamOf("012345 012345 012345 012345 012345 012345"), 0, 25, 0, 0);
        kinds(foamOf("012345 670123 456701 234567 012345 670123"), 0, 0, 0, 25);
        kinds(foamOf("000012 000034 000000 000000 110000 220000"), 17, 4, 3, 1);
    }

    // ---- the energy

    private static void energies(PlateauBench x, int now, int atRest, int work, int lost) {
        Check.says(28, "`what`: 0 the ENERGY, 1 the ENERGY as the foam would REST, 2 the WORK, 3 what is LOST");
        Check.due("the energy", x.energy(0), now);
        Check.due("the energy at rest", x.energy(1), atRest);
        Check.due("the work", x.energy(2), work);
        Check.due("what is lost", x.energy(3), lost);
        Check.due("the balance", x.energy(4), 0);
    }

    private static void energyEnds() {
        Check.says("The foam", "The ENERGY is what all WALLS cost, together.");
        PlateauBench x = Recipe.dearest(new PlateauBench());
        energies(x, 0, 0, 0, 0);
        for (int node = 0; node < 36; node++) {
            x.pull(node, Recipe.isWhite(node) ? 7 : 0);
            x.hold(node % 8, true);
        }
        energies(x, 60 * 59, 60 * 59, 60 * 59, 0);
        x.cost(0, 1);
        x.cost(1, 1);
        energies(x, 60 * 51, 60 * 51, 60 * 51, 0);
        for (int edge = 0; edge < 60; edge++) {
            x.lay(edge, 0);
        }
        energies(x, 60, 60, 60, 0);
        for (int node = 0; node < 36; node++) {
            x.pull(node, 7);
        }
        energies(x, 0, 0, 0, 0);
    }

    private static void energyAtRest() {
        Check.says(28, "Tells of the ENERGY.");
        PlateauBench x = Recipe.spike(new PlateauBench());
        energies(x, 12, 6, 12, 0);
        foam(x, "000000 000000 111110 110000 000000 000000");
        x.hold(1, true);
        energies(x, 12, 12, 12, 0);
        x.hold(1, false);
        x.breathe(100);
        energies(x, 6, 6, 12, 6);
    }

    private static void workAndLost() {
        Check.says("The foam", "The WORK is by how much the ENERGY has become more by all calls but breaths");
        PlateauBench x = new PlateauBench();
        x.cost(0, 5);
        x.lay(12, 7);
        energies(x, 0, 0, 0, 0);
        x.pull(14, 1);
        energies(x, 5 + 12 + 2, 0, 19, 0);
        x.pull(14, 0);
        energies(x, 0, 0, 0, 0);
        x.pull(14, 1);
        x.lay(12, 0);
        energies(x, 12, 0, 12, 0);
        x.cost(0, 1);
        energies(x, 4, 0, 4, 0);
        x.cost(1, 9);
        energies(x, 20, 0, 20, 0);
        x.hold(1, true);
        x.hold(0, true);
        energies(x, 20, 20, 20, 0);
        x.hold(0, false);
        x.hold(1, false);
        x.breathe(1);
        energies(x, 0, 0, 20, 20);
        x.breathe(100);
        energies(x, 0, 0, 20, 20);
        x.pull(0, 1);
        energies(x, 10, 0, 30, 20);
        x.cost(1, 1);
        energies(x, 2, 0, 22, 20);
        x.breathe(1);
        energies(x, 0, 0, 22, 22);
    }

    private static void workAndLostInTheLongRun() {
        Check.says("The foam", "The WORK is by how much the ENERGY has become more by all calls but breaths");
        // 62 calls, and 49 times 9: beyond what two bytes can hold, and near the last of the 512 calls.
        PlateauBench x = Recipe.dearest(new PlateauBench());
        int[] inner = {7, 9, 14, 16, 19, 21, 26, 28};
        for (int i = 1; i < 50; i++) {
            for (int node : inner) {
                x.pull(node, 1 + i % 7);
            }
            Check.due("how many come back", x.breathe(100), 8);
        }
        int all = 49 * 8 * 4 * 59;
        energies(x, 0, 0, all, all);
        x.pull(0, 1);
        x.pull(0, 0);
        Check.due("the last but one", x.pull(35, 7), 0);
        Check.due("the 512th call", x.energy(2), all + 2 * 59);
    }

    private static void energyBalance() {
        Check.says(28, "`what`: 0 the ENERGY, 1 the ENERGY as the foam would REST, 2 the WORK, 3 what is LOST");
        PlateauBench x = new PlateauBench();
        for (int i = 0; i < 80; i++) {
            x.pull(i * 7 % 36, i * 5 % 8);
            x.lay(i * 11 % 60, i * 13 % 51);
            x.cost(i % 2, 1 + i * 5 % 9);
            x.hold(i * 3 % 8, i % 3 == 0);
            x.breathe(1 + i % 2);
            Check.due("the balance behind round " + i, x.energy(4), 0);
        }
    }
}
