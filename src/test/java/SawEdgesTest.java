/** SAW: each sentence that names a boundary, its last value that is allowed and its first that is not. */
public final class SawEdgesTest {
    public static void main(String[] args) {
        atFirst();
        nearest();
        fourTimes();
        forgotten();
        cells();
        spans();
        knots();
        sizes();
        eightSizes();
        stale();
        boardsAsked();
        allAsked();
        worthOfTurns();
        yieldsAsked();
        mayLie();
        wane();
        apartOrNot();
        worthNotBelowZero();
        fewestBoards();
        ties();
        bothTurns();
        kerfBetween();
        full();
        Check.end();
    }

    /** Cells from x on to another one are IN at both ends. */
    private static void wood(Twins t, int y, int from, int to) {
        t.due(0, 2, 0, y, from, to);
        t.due(0, 2, 1, y, from, to);
    }

    private static void looks(Twins t) {
        for (int call : new int[] {6, 7, 9, 11}) {
            for (int a = 0; a < 4; a++) {
                for (int b = 0; b < 2; b++) {
                    t.same(call, a, b);
                }
            }
        }
        t.same(6, 0, 5);
        t.same(6, 0, 6);
        t.same(8, 0);
        t.same(8, 1);
        t.same(12);
        t.same(10, 0, 0, 0, 0);
        t.same(10, 1, 0, 0, 0);
    }

    // "(At first: 12, 1.)", "(not at first)", "(0 at first)"
    private static void atFirst() {
        Twins t = new Twins();
        t.due(0, 12);
        t.due(0, 1, 0, 11, 11, 0);
        t.thing(1, 0, 12, 0, 0);
        t.thing(1, 0, 0, 12, 0);
        t.due(0, 3, 11, 11, 0);
        wood(t, 0, 0, 12);
        t.due(0, 4, 1, 1, 1, 0);
        t.due(6, 5);
        t.due(2, 6, 1, 1);
        looks(t);
    }

    // "SIDE the nearest of 1 .. 20, KERF of 0 .. 4."
    private static void nearest() {
        int[][] sides = {{-2147483648, 1}, {0, 1}, {1, 1}, {2, 2}, {19, 19}, {20, 20}, {21, 20}, {2147483647, 20}};
        for (int[] side : sides) {
            Twins t = new Twins();
            t.due(1, 0, side[0], 0);
            t.due(1, 1, 1, side[1] - 1, side[1] - 1, 1);
            t.thing(1, 1, side[1], 0, 1);
            t.thing(1, 1, 0, side[1], 1);
            t.due(0, 12);
        }
        int[][] kerfs = {{-2147483648, 20}, {-1, 20}, {0, 20}, {1, 10}, {3, 5}, {4, 4}, {5, 4}, {2147483647, 4}};
        for (int[] kerf : kerfs) {
            Twins t = new Twins();
            t.due(1, 0, 20, kerf[0]);
            wood(t, 0, 0, 20);
            t.due(0, 4, 1, 1, 1, 0);
            t.due(kerf[1], 5);
            t.due(1 + Math.max(0, Math.min(4, kerf[0])), 6, 1, 1);
        }
    }

    // "1; 0, and nothing, if it was made ANEW 4 times."
    private static void fourTimes() {
        Twins t = new Twins();
        for (int i = 0; i < 4; i++) {
            t.due(1, 0, 5, 0);
        }
        wood(t, 4, 0, 5);
        t.due(0, 4, 1, 1, 3, 0);
        t.due(5, 5);
        t.due(0, 0, 9, 2);
        t.due(15, 7, 0);
        t.due(5, 12);
        t.thing(1, 0, 5, 0, 1);
        t.due(0, 0, 5, 0);
        looks(t);
    }

    // "all that was told it is forgotten"
    private static void forgotten() {
        Twins t = new Twins();
        wood(t, 0, 0, 12);
        t.due(1, 3, 0, 0, 5);
        t.due(0, 4, 1, 1, 7, 0);
        t.due(6, 5);
        t.due(1, 0, 12, 1);
        t.due(0, 12);
        t.state(7, 0);
        t.thing(10, 0, 0, 0, 0);
        t.due(0, 5);
        t.due(0, 3, 0, 0, 0);
        t.due(0, 4, 1, 1, 7, 0);
        t.due(0, 5);
        looks(t);
        smaller();
    }

    /** A log that is smaller than the one before knows nothing of that one. */
    private static void smaller() {
        for (int side = 1; side < 20; side += 3) {
            Twins t = new Twins();
            t.due(1, 0, 20, 0);
            for (int y = 0; y < 20; y++) {
                wood(t, y, 0, 20);
            }
            t.due(0, 4, 1, 1, 9, 0);
            t.due(1, 4, 2, 1, 9, 0);
            t.due(400, 5);
            t.due(1, 0, side, 0);
            for (int y = 0; y < side; y++) {
                wood(t, y, 0, side);
            }
            t.due(0, 4, 1, 1, 5, 0);
            t.due(5 * side * side, 8, 0);
            t.due(5 * side * side, 8, 1);
            t.due(side * side, 5);
            t.due(side, 7, 2);
            t.due(5 * side * side, 7, 0);
            t.due(side * side, 12);
            t.thing(10, 1, 0, 0, 0);
        }
    }

    // "A cell is IN at an end, or not: whether that is new. IndexOutOfBoundsException."
    private static void cells() {
        Twins t = new Twins();
        t.thing(1, -1, 0, 0, 1);
        t.thing(1, 2, 0, 0, 1);
        t.thing(1, 0, -1, 0, 1);
        t.thing(1, 0, 12, 0, 1);
        t.thing(1, 0, 0, -1, 1);
        t.thing(1, 0, 0, 12, 1);
        t.thing(1, -2147483648, 2147483647, 2147483647, 1);
        t.due(0, 1, 0, 0, 0, 0);
        t.due(1, 1, 0, 0, 0, 1);
        t.due(0, 1, 0, 0, 0, 1);
        t.due(0, 1, 0, 0, 0, -7);
        // "It is WOOD if it is IN at both."
        t.due(0, 12);
        t.due(1, 1, 1, 0, 0, 256);
        t.due(1, 12);
        t.due(1, 1, 0, 0, 0, 0);
        t.due(0, 12);
        t.due(0, 1, 0, 0, 0, 0);
        t.due(0, 1, 1, 0, 0, 1);
        t.due(1, 1, 1, 11, 11, 1);
        t.due(1, 1, 0, 11, 11, 1);
        t.due(1, 12);
        looks(t);
    }

    // "IndexOutOfBoundsException: no such end, or row; IllegalArgumentException: from is not 0 .. SIDE, or to not
    // from .. SIDE."
    private static void spans() {
        Twins t = new Twins();
        t.thing(2, -1, 0, 0, 5);
        t.thing(2, 2, 0, 0, 5);
        t.thing(2, 0, -1, 0, 5);
        t.thing(2, 0, 12, 0, 5);
        t.thing(2, 0, 12, -1, 99);
        t.thing(2, 2, 0, 5, 4);
        t.number(2, 0, 0, -1, 5);
        t.number(2, 0, 0, -1, -1);
        t.number(2, 0, 0, 13, 13);
        t.number(2, 0, 0, 5, 4);
        t.number(2, 0, 0, 5, 13);
        t.number(2, 0, 0, 0, 2147483647);
        t.number(2, 0, 0, -2147483648, 2147483647);
        t.due(0, 12);
        wood(t, 0, 12, 12);
        wood(t, 0, 0, 0);
        wood(t, 0, 5, 5);
        t.due(0, 12);
        // "from x on to another one (not itself)"
        wood(t, 3, 2, 5);
        t.due(3, 12);
        t.due(0, 1, 0, 2, 3, 1);
        t.due(0, 1, 0, 4, 3, 1);
        t.due(0, 1, 0, 1, 3, 0);
        t.due(0, 1, 0, 5, 3, 0);
        wood(t, 11, 0, 12);
        t.due(15, 12);
        // What is IN stays so.
        wood(t, 11, 3, 4);
        t.due(15, 12);
        looks(t);
    }

    // "whether its loss is another one than before. IndexOutOfBoundsException; IllegalArgumentException: loss is not
    // 0 .. 10000."
    private static void knots() {
        Twins t = new Twins();
        t.thing(3, -1, 0, 1);
        t.thing(3, 12, 0, 1);
        t.thing(3, 0, -1, 1);
        t.thing(3, 0, 12, 1);
        t.thing(3, 12, 0, -1);
        t.thing(3, 0, 12, 10001);
        t.number(3, 0, 0, -1);
        t.number(3, 0, 0, 10001);
        t.number(3, 0, 0, -2147483648);
        t.due(0, 3, 0, 0, 0);
        t.due(1, 3, 0, 0, 10000);
        t.due(0, 3, 0, 0, 10000);
        t.number(3, 0, 0, 10001);
        t.due(1, 3, 0, 0, 1);
        t.due(1, 3, 0, 0, 0);
        t.due(0, 3, 0, 0, 0);
        t.due(1, 3, 11, 11, 9);
        looks(t);
    }

    // "IllegalArgumentException: thick or wide is not 1 .. 20, worth not 0 .. 100000, or wane not 0 .. 400"
    private static void sizes() {
        Twins t = new Twins();
        t.number(4, 0, 1, 1, 1);
        t.number(4, 21, 1, 1, 1);
        t.number(4, -1, 1, 1, 1);
        t.number(4, 1, 0, 1, 1);
        t.number(4, 1, 21, 1, 1);
        t.number(4, 1, 1, -1, 1);
        t.number(4, 1, 1, 100001, 1);
        t.number(4, 1, 1, 1, -1);
        t.number(4, 1, 1, 1, 401);
        t.due(0, 4, 1, 1, 0, 0);
        t.due(1, 4, 20, 20, 100000, 400);
        t.due(2, 4, 1, 20, 0, 400);
        t.due(3, 4, 20, 1, 100000, 0);
        t.thing(10, 4, 0, 0, 0);
        looks(t);
    }

    // "IllegalStateException: there are 8", behind IllegalArgumentException.
    private static void eightSizes() {
        Twins t = new Twins();
        for (int i = 0; i < 8; i++) {
            t.due(i, 4, 1, 1, i, 400);
        }
        t.due(36, 5);
        t.state(4, 1, 1, 1, 1);
        t.number(4, 0, 1, 1, 1);
        t.number(4, 1, 1, 1, 401);
        // The plan is still there: nothing was told.
        t.due(36 * 7, 7, 0);
        t.due(1, 10, 7, 0, 0, 0);
        t.thing(10, 8, 0, 0, 0);
        looks(t);
    }

    // "nothing was run since something was told to the part that changed what it reckons with (span() of SAW, .. a
    // size .. more always do; others not, if what they tell was so before)"
    private static void stale() {
        Twins t = new Twins();
        for (int call : new int[] {6, 7, 9, 11}) {
            t.state(call, 0, 0);
            t.state(call, -1, 99);
        }
        t.due(0, 5);
        t.due(0, 7, 3);
        t.due(0, 1, 0, 3, 3, 0);
        t.due(0, 3, 3, 3, 0);
        t.due(0, 7, 3);
        t.due(1, 1, 0, 3, 3, 1);
        t.state(7, 3);
        t.state(6, 0, 0);
        t.state(9, 0);
        t.state(11, 0, 0);
        t.due(0, 5);
        t.due(0, 1, 0, 3, 3, 1);
        t.due(0, 7, 3);
        t.due(0, 2, 0, 3, 3, 3);
        t.state(7, 3);
        t.due(0, 5);
        t.due(1, 3, 3, 3, 5);
        t.state(7, 3);
        t.due(0, 5);
        t.due(0, 3, 3, 3, 5);
        t.due(0, 7, 3);
        t.due(1, 3, 3, 3, 0);
        t.state(7, 3);
        t.due(0, 5);
        t.due(0, 4, 1, 1, 0, 0);
        t.state(7, 3);
        t.due(0, 5);
        // A refused call leaves the plan, and 8, 10, 12 answer without one.
        t.thing(1, 2, 0, 0, 1);
        t.number(2, 0, 0, 5, 4);
        t.number(3, 0, 0, -1);
        t.number(4, 0, 0, 0, 0);
        t.due(0, 7, 3);
        t.due(1, 1, 0, 3, 3, 0);
        t.due(0, 8, 0);
        t.due(0, 10, 0, 0, 0, 0);
        t.due(0, 12);
        t.state(7, 3);
        looks(t);
    }

    /** WOOD of 4 by 4 cells from 0, 1 on: a thin slab of two boards of 1 by 1 and one with a board of 2 by 3. */
    private static Twins log() {
        Twins t = new Twins();
        t.due(1, 0, 6, 1);
        for (int y = 1; y < 5; y++) {
            wood(t, y, 0, 4);
        }
        t.due(0, 4, 2, 3, 10, 1);
        t.due(1, 4, 1, 1, 2, 0);
        return t;
    }

    // "IllegalStateException (first); IndexOutOfBoundsException."
    private static void boardsAsked() {
        Twins t = log();
        t.state(6, 0, 0);
        t.state(6, 9, 7);
        t.due(3, 5);
        int[][] want = {{1, 0, 1, 1, 1, 2, 0}, {1, 2, 1, 1, 1, 2, 0}, {0, 0, 3, 3, 2, 10, 0}};
        for (int k = 0; k < want.length; k++) {
            for (int what = 0; what < 7; what++) {
                t.due(want[k][what], 6, k, what);
            }
        }
        t.thing(6, 3, 0);
        t.thing(6, -1, 0);
        t.thing(6, 0, 7);
        t.thing(6, 0, -1);
        t.thing(6, 2147483647, 0);
        looks(t);
    }

    // "The sum of what boards are worth (what = 0), the turn (1), how many slabs (2), how many boards (3)."
    private static void allAsked() {
        Twins t = log();
        t.state(7, 4);
        t.due(3, 5);
        t.due(14, 7, 0);
        t.due(0, 7, 1);
        t.due(2, 7, 2);
        t.due(3, 7, 3);
        t.thing(7, 4);
        t.thing(7, -1);
        looks(t);
    }

    // "The greatest sum of a turn, 0 or 1 (whatever was SAWN). IndexOutOfBoundsException."
    private static void worthOfTurns() {
        Twins t = new Twins();
        wood(t, 0, 0, 5);
        t.due(0, 4, 1, 5, 9, 0);
        t.due(9, 8, 0);
        t.due(0, 8, 1);
        t.thing(8, 2);
        t.thing(8, -1);
        t.due(1, 5);
        t.due(9, 8, 0);
        t.due(0, 8, 1);
        t.due(9, 7, 0);
        t.due(1, 1, 0, 0, 0, 0);
        t.due(0, 8, 0);
        t.state(7, 0);
        looks(t);
    }

    // "numerator (part = 0), denominator (1); 0 / 1 without WOOD. IllegalStateException (first);
    // IndexOutOfBoundsException."
    private static void yieldsAsked() {
        Twins t = new Twins();
        t.state(9, 2);
        t.due(0, 5);
        t.due(0, 9, 0);
        t.due(1, 9, 1);
        t.thing(9, 2);
        t.thing(9, -1);
        // WOOD of which nothing is sawn is 0 / 1, too.
        wood(t, 0, 0, 4);
        t.due(0, 5);
        t.due(0, 9, 0);
        t.due(1, 9, 1);
        t.due(0, 4, 1, 2, 5, 0);
        t.due(1, 5);
        t.due(1, 9, 0);
        t.due(2, 9, 1);
        wood(t, 0, 4, 5);
        t.due(2, 5);
        t.due(4, 9, 0);
        t.due(5, 9, 1);
        // Cells of boards that are not WOOD are counted all the same: more than all the WOOD.
        t.due(1, 4, 1, 12, 100, 7);
        t.due(1, 5);
        t.due(12, 9, 0);
        t.due(5, 9, 1);
        looks(t);
    }

    // "it is on the grid, and not more than WANE of its cells are not WOOD. IndexOutOfBoundsException: no such size,
    // turn."
    private static void mayLie() {
        Twins t = new Twins();
        t.thing(10, 0, 0, 0, 0);
        wood(t, 9, 10, 12);
        wood(t, 10, 10, 12);
        wood(t, 11, 10, 12);
        t.due(0, 4, 3, 2, 1, 0);
        t.thing(10, 1, 10, 9, 0);
        t.thing(10, -1, 10, 9, 0);
        t.thing(10, 0, 10, 9, 2);
        t.thing(10, 0, 10, 9, -1);
        t.thing(10, 1, 99, 99, 2);
        t.due(1, 10, 0, 10, 9, 0);
        t.due(0, 10, 0, 11, 9, 0);
        t.due(0, 10, 0, 10, 10, 0);
        t.due(0, 10, 0, 9, 9, 0);
        t.due(0, 10, 0, 10, 8, 0);
        t.due(0, 10, 0, 10, 9, 1);
        t.due(0, 10, 0, -1, 9, 0);
        t.due(0, 10, 0, 10, -1, 0);
        t.due(0, 10, 0, 12, 9, 0);
        t.due(0, 10, 0, 10, 12, 0);
        t.due(0, 10, 0, 2147483647, 9, 0);
        t.due(0, 10, 0, 10, 2147483647, 0);
        t.due(0, 10, 0, -2147483648, -2147483648, 1);
        // Off the grid it may not lie, however great its WANE is.
        t.due(1, 4, 3, 2, 1, 400);
        t.due(1, 10, 1, 10, 9, 0);
        t.due(0, 10, 1, 11, 9, 0);
        t.due(0, 10, 1, 10, 10, 0);
        t.due(1, 10, 1, 9, 10, 1);
        t.due(0, 10, 1, 10, 10, 1);
        t.due(0, 10, 1, 9, 11, 1);
        t.due(0, 10, 1, -1, 0, 0);
        t.due(0, 10, 1, 0, -1, 0);
        wood(t, 10, 9, 10);
        wood(t, 11, 9, 10);
        t.due(1, 10, 0, 9, 10, 1);
        t.due(0, 10, 0, 10, 10, 1);
        t.due(0, 10, 0, 9, 11, 1);
        looks(t);
    }

    // "at most WANE of its cells are not WOOD"
    private static void wane() {
        Twins t = new Twins();
        wood(t, 0, 0, 10);
        t.due(0, 4, 1, 12, 5, 1);
        t.due(0, 10, 0, 0, 0, 0);
        t.due(0, 5);
        wood(t, 0, 10, 11);
        t.due(1, 10, 0, 0, 0, 0);
        t.due(1, 5);
        t.due(1, 6, 0, 6);
        // A cell IN at one end alone is no WOOD.
        t.due(1, 1, 0, 11, 0, 1);
        t.due(1, 5);
        t.due(1, 6, 0, 6);
        t.due(1, 1, 1, 11, 0, 1);
        t.due(1, 5);
        t.due(0, 6, 0, 6);
        looks(t);
    }

    // "Whether two boards lie KERF apart at least: along x or along y (a board from itself does not).
    // IllegalStateException (first); IndexOutOfBoundsException."
    private static void apartOrNot() {
        Twins t = log();
        t.state(11, 0, 9);
        t.due(3, 5);
        for (int a = 0; a < 3; a++) {
            for (int b = 0; b < 3; b++) {
                t.due(a == b ? 0 : 1, 11, a, b);
            }
        }
        t.thing(11, 3, 0);
        t.thing(11, 0, 3);
        t.thing(11, -1, 0);
        t.thing(11, 0, -1);
        // Without a KERF boards that touch are apart.
        Twins s = new Twins();
        s.due(1, 0, 2, 0);
        wood(s, 0, 0, 2);
        s.due(0, 4, 1, 1, 1, 0);
        s.due(2, 5);
        s.due(1, 11, 0, 1);
        s.due(1, 11, 1, 0);
        s.due(0, 11, 0, 0);
        s.due(0, 11, 1, 1);
        looks(t);
    }

    // "its SIZE's WORTH less the losses of all its cells' KNOTS, but not below 0"
    private static void worthNotBelowZero() {
        Twins t = new Twins();
        t.due(1, 0, 3, 0);
        wood(t, 0, 0, 3);
        t.due(0, 4, 1, 2, 9, 0);
        t.due(1, 4, 1, 1, 3, 0);
        t.due(1, 3, 1, 0, 2);
        t.due(2, 5);
        t.due(10, 7, 0);
        t.due(7, 6, 0, 5);
        t.due(3, 6, 1, 5);
        // The greater loss makes the board worth nothing, not less: the two others count in full.
        t.due(1, 3, 1, 0, 10000);
        t.due(2, 5);
        t.due(6, 7, 0);
        t.due(6, 8, 0);
        t.due(2, 6, 1, 1);
        // A board that is worth nothing makes no pattern better, but one more.
        t.due(1, 3, 0, 0, 3);
        t.due(1, 3, 2, 0, 2);
        t.due(1, 5);
        t.due(1, 6, 0, 5);
        t.due(1, 3, 2, 0, 3);
        t.due(0, 5);
        t.due(0, 7, 0);
        t.due(0, 7, 2);
        looks(t);
    }

    // "of several the fewest boards"
    private static void fewestBoards() {
        Twins t = new Twins();
        t.due(1, 0, 4, 0);
        wood(t, 0, 0, 4);
        t.due(0, 4, 1, 1, 5, 0);
        t.due(1, 4, 1, 2, 10, 0);
        t.due(2, 4, 1, 4, 19, 0);
        t.due(2, 5);
        t.due(20, 7, 0);
        t.due(1, 6, 0, 0);
        t.due(1, 6, 1, 0);
        t.due(3, 4, 1, 4, 20, 0);
        t.due(1, 5);
        t.due(3, 6, 0, 0);
        looks(t);
    }

    // "then, from the first row on: a slab at a row before none, a thinner slab first; in a slab, from the first
    // column on, a board before none, one of a lesser SIZE first"
    private static void ties() {
        Twins t = new Twins();
        t.due(1, 0, 3, 4);
        for (int y = 0; y < 3; y++) {
            wood(t, y, 0, 3);
        }
        t.due(0, 4, 3, 1, 5, 0);
        t.due(1, 4, 2, 2, 5, 0);
        t.due(2, 4, 2, 1, 5, 0);
        t.due(1, 5);
        t.due(1, 6, 0, 0);
        t.due(0, 6, 0, 1);
        t.due(0, 6, 0, 2);
        t.due(3, 4, 1, 1, 5, 0);
        t.due(1, 5);
        t.due(3, 6, 0, 0);
        t.due(0, 6, 0, 1);
        t.due(0, 6, 0, 2);
        t.due(4, 4, 1, 1, 5, 0);
        t.due(1, 5);
        t.due(3, 6, 0, 0);
        t.due(0, 7, 1);
        looks(t);
    }

    // "SAWN: the BEST one of both turns (of the same worth and as many boards the lying one)."
    private static void bothTurns() {
        Twins t = new Twins();
        t.due(1, 0, 4, 0);
        for (int y = 0; y < 4; y++) {
            wood(t, y, 0, 1);
        }
        t.due(0, 4, 1, 1, 2, 0);
        t.due(4, 5);
        t.due(8, 8, 0);
        t.due(8, 8, 1);
        t.due(0, 7, 1);
        t.due(4, 7, 2);
        // As much by fewer boards: down in one slab.
        t.due(1, 4, 1, 2, 4, 0);
        t.due(2, 5);
        t.due(1, 7, 1);
        t.due(1, 7, 2);
        t.due(8, 7, 0);
        t.due(1, 6, 0, 3);
        t.due(2, 6, 0, 4);
        t.due(2, 6, 1, 2);
        // More worth by more boards: lying again.
        t.due(2, 4, 1, 1, 3, 0);
        t.due(4, 5);
        t.due(0, 7, 1);
        t.due(12, 7, 0);
        // And just more worth turned.
        t.due(3, 4, 1, 4, 13, 0);
        t.due(1, 5);
        t.due(1, 7, 1);
        t.due(13, 8, 1);
        t.due(12, 8, 0);
        looks(t);
    }

    // "between two slabs that are next to one another KERF rows at least are lost; .. KERF columns at least between
    // two"
    private static void kerfBetween() {
        for (int side = 1; side <= 12; side++) {
            Twins t = new Twins();
            t.due(1, 0, side, 3);
            for (int y = 0; y < side; y++) {
                wood(t, y, 0, side);
            }
            t.due(0, 4, 2, 1, 1, 0);
            int slabs = (side + 3) / 5;
            int boards = (side + 3) / 4;
            t.due(slabs * boards, 5);
            t.due(slabs * boards, 8, 0);
            t.due(slabs * boards, 8, 1);
            if (slabs > 0) {
                t.due(slabs, 7, 2);
                t.due(4 * (boards - 1), 6, boards - 1, 1);
                t.due(5 * (slabs - 1), 6, slabs * boards - 1, 2);
            }
            looks(t);
        }
    }

    /** The largest log full of the smallest boards. */
    private static void full() {
        Twins t = new Twins();
        t.due(1, 0, 20, 0);
        for (int y = 0; y < 20; y++) {
            wood(t, y, 0, 20);
        }
        t.due(400, 12);
        t.due(0, 4, 1, 1, 100000, 0);
        t.due(400, 5);
        t.due(40000000, 7, 0);
        t.due(20, 7, 2);
        t.due(1, 9, 0);
        t.due(1, 9, 1);
        t.due(19, 6, 399, 1);
        t.due(19, 6, 399, 2);
        t.due(1, 11, 0, 399);
        t.thing(6, 400, 0);
        t.due(1, 4, 20, 20, 100000, 0);
        t.due(1, 3, 0, 0, 10000);
        t.due(400, 5);
        t.due(39990000, 7, 0);
        looks(t);
    }
}
