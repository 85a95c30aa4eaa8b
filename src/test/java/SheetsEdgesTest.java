/** SHEETS: each sentence that names a boundary, its last value that is allowed and its first that is not. */
public final class SheetsEdgesTest {
    public static void main(String[] args) {
        atFirst();
        nearestKerf();
        nearestStages();
        nearestLeast();
        fourTimes();
        forgotten();
        sheets();
        sheetsFull();
        parts();
        partsFull();
        counts();
        worths();
        worthOfWanted();
        turned();
        stale();
        nothingToCut();
        stocks();
        twenty();
        mostForCents();
        copies();
        treeTies();
        bothWays();
        cutAsked();
        takenAsked();
        rests();
        restsNotTaken();
        alike();
        minutes();
        leftAsked();
        allAsked();
        bounds();
        runAgain();
        Check.end();
    }

    private static void looks(Twins t) {
        for (int k = 0; k < 3; k++) {
            for (int what = 0; what < 8; what++) {
                t.same(506, k, what);
            }
            for (int what = 0; what < 5; what++) {
                t.same(507, 0, k, what);
                t.same(508, 0, k, what);
            }
            t.same(509, k);
            t.same(510, k);
        }
        t.same(511);
        t.same(504, 16, 16, 0, 3);
        t.same(504, 7, 5, 1, 2);
    }

    private static Twins made(int kerf, int stages, int least) {
        Twins t = new Twins();
        t.due(1, 500, kerf, stages, least);
        return t;
    }

    // "(At first: 0, 3, 2.)"
    private static void atFirst() {
        Twins t = new Twins();
        t.due(0, 511);
        threeStages(t, 25);
        Twins s = new Twins();
        s.due(0, 501, 16, 1, 1, 1);
        s.due(0, 502, 1, 1, 50, 0);
        s.due(1, 505);
        s.due(16, 506, 0, 1);
        restOf(new Twins(), 1, 0);
        restOf(new Twins(), 2, 1);
        looks(s);
    }

    /** A sheet of 5 by 5 of which all is taken by three stages, 23 cells by two, 15 by one. */
    private static void threeStages(Twins t, int area) {
        t.due(0, 501, 5, 5, 1, 1);
        t.due(0, 502, 5, 3, 9, 0);
        t.due(1, 502, 2, 2, 9, 0);
        t.due(2, 502, 3, 1, 9, 0);
        t.due(1, 505);
        t.due(area, 506, 0, 2);
        looks(t);
    }

    /** A sheet of which a piece of 16 by so much is left, 7 at most: whether that is a REST. */
    private static void restOf(Twins t, int left, int want) {
        t.due(0, 501, 16, 16, 1, 1);
        t.due(0, 502, 16, 16 - left, 1, 0);
        t.due(1, 505);
        t.due(want, 506, 0, 6);
        looks(t);
    }

    // "KERF the nearest of 0 .. 3"
    private static void nearestKerf() {
        int[][] told = {{-2147483648, 16}, {-1, 16}, {0, 16}, {1, 8}, {2, 6}, {3, 4}, {4, 4}, {2147483647, 4}};
        for (int[] v : told) {
            Twins t = made(v[0], 3, 2);
            t.due(0, 501, 16, 1, 1, 1);
            t.due(0, 502, 1, 1, 50, 0);
            t.due(1, 505);
            t.due(v[1], 506, 0, 1);
            t.due(1 + Math.max(0, Math.min(3, v[0])), 507, 0, 1, 1);
        }
    }

    // "STAGES of 1 .. 3"
    private static void nearestStages() {
        int[][] told = {{-2147483648, 15}, {0, 15}, {1, 15}, {2, 23}, {3, 25}, {4, 25}, {2147483647, 25}};
        for (int[] v : told) {
            threeStages(made(0, v[0], 2), v[1]);
        }
    }

    // "LEAST of 1 .. 16"; "of which both sides are at least LEAST"
    private static void nearestLeast() {
        restOf(made(0, 3, -2147483648), 1, 1);
        restOf(made(0, 3, 0), 1, 1);
        restOf(made(0, 3, 1), 1, 1);
        restOf(made(0, 3, 2), 1, 0);
        restOf(made(0, 3, 2), 2, 1);
        restOf(made(0, 3, 6), 6, 1);
        restOf(made(0, 3, 7), 6, 0);
        restOf(made(0, 3, 7), 7, 1);
        restOf(made(0, 3, 8), 7, 0);
        restOf(made(0, 3, 16), 7, 0);
        restOf(made(0, 3, 17), 7, 0);
        restOf(made(0, 3, 2147483647), 7, 0);
    }

    // "1; 0, and nothing, if it was made ANEW 4 times."
    private static void fourTimes() {
        Twins t = new Twins();
        for (int i = 0; i < 4; i++) {
            t.due(1, 500, 3, 3, 2);
        }
        t.due(0, 501, 16, 1, 1, 1);
        t.due(0, 502, 1, 1, 50, 0);
        t.due(1, 505);
        t.due(0, 500, 0, 3, 2);
        t.due(4, 506, 0, 1);
        t.due(1, 505);
        t.due(4, 506, 0, 1);
        t.due(1, 501, 1, 1, 1, 1);
        looks(t);
    }

    // "all that was told it is forgotten"
    private static void forgotten() {
        Twins t = new Twins();
        t.due(0, 501, 4, 4, 1, 3);
        t.due(0, 502, 2, 2, 5, 0);
        t.due(3, 505);
        t.due(1, 500, 0, 3, 2);
        t.state(510, 0);
        t.due(0, 511);
        t.thing(503, 0, 1);
        t.due(0, 504, 4, 4, 0, 3);
        t.due(0, 505);
        t.due(0, 510, 0);
        t.thing(509, 0);
        t.due(0, 501, 2, 2, 1, 3);
        t.due(0, 505);
        t.due(0, 502, 2, 2, 5, 0);
        t.due(3, 505);
        looks(t);
    }

    // "IllegalArgumentException: a side is not 1 .. 16, cents not 1 .. 10000, or stock not 0 .. 20"
    private static void sheets() {
        Twins t = new Twins();
        t.due(0, 505);
        t.number(501, 0, 1, 1, 1);
        t.number(501, 17, 1, 1, 1);
        t.number(501, 1, 0, 1, 1);
        t.number(501, 1, 17, 1, 1);
        t.number(501, 1, 1, 0, 1);
        t.number(501, 1, 1, 10001, 1);
        t.number(501, 1, 1, 1, -1);
        t.number(501, 1, 1, 1, 21);
        t.number(501, -2147483648, 2147483647, 1, 1);
        t.due(0, 510, 0);
        t.due(0, 511);
        t.due(0, 501, 1, 1, 1, 0);
        t.state(510, 0);
        t.due(1, 501, 16, 16, 10000, 20);
        t.due(2, 501, 1, 16, 1, 1);
        t.due(0, 502, 16, 16, 50, 0);
        t.due(20, 505);
        t.due(200000, 510, 0);
        looks(t);
    }

    // "SHEETS 0 .. 3"; "IllegalStateException: there are 4.", behind IllegalArgumentException.
    private static void sheetsFull() {
        Twins t = new Twins();
        t.due(0, 502, 1, 1, 9, 0);
        for (int i = 0; i < 4; i++) {
            t.due(i, 501, 1, 1, 1, 1);
        }
        t.due(4, 505);
        t.state(501, 16, 16, 1, 1);
        t.number(501, 0, 16, 1, 1);
        t.number(501, 16, 16, 1, 21);
        t.due(4, 510, 0);
        t.due(9, 511);
        t.due(3, 506, 3, 0);
        looks(t);
    }

    // "IllegalArgumentException: a side is not 1 .. 16, or count not 0 .. 50"
    private static void parts() {
        Twins t = new Twins();
        t.due(0, 501, 16, 16, 1, 20);
        t.due(0, 505);
        t.number(502, 0, 1, 1, 0);
        t.number(502, 17, 1, 1, 0);
        t.number(502, 1, 0, 1, 0);
        t.number(502, 1, 17, 1, 0);
        t.number(502, 1, 1, -1, 0);
        t.number(502, 1, 1, 51, 0);
        t.number(502, 1, 1, 2147483647, 0);
        t.due(0, 510, 0);
        t.thing(503, 0, 0);
        t.due(0, 502, 1, 1, 0, 0);
        t.state(510, 0);
        t.due(0, 505);
        t.due(1, 502, 16, 16, 50, 1);
        t.due(20, 505);
        t.due(30, 509, 1);
        t.due(2, 502, 1, 16, 1, -1);
        t.due(3, 502, 16, 1, 1, 0);
        looks(t);
    }

    // "PARTS 0 .. 7"; "IllegalStateException: there are 8.", behind IllegalArgumentException.
    private static void partsFull() {
        Twins t = new Twins();
        t.due(0, 501, 8, 1, 1, 8);
        for (int i = 0; i < 8; i++) {
            t.due(i, 502, i + 1, 1, 1, 0);
        }
        // 8, 7 and 1, 6 and 2, 5 and 3, 4.
        t.due(5, 505);
        t.state(502, 8, 1, 1, 0);
        t.number(502, 0, 1, 1, 0);
        t.number(502, 8, 1, 51, 0);
        t.due(5, 510, 0);
        t.due(0, 509, 7);
        t.thing(509, 8);
        t.thing(503, 8, 0);
        looks(t);
    }

    // "Another COUNT of a PART: the one before. IndexOutOfBoundsException; IllegalArgumentException: count is not
    // 0 .. 50."; "count() of SHEETS .. always do"
    private static void counts() {
        Twins t = new Twins();
        t.due(0, 501, 1, 1, 1, 20);
        t.thing(503, 0, 5);
        t.due(0, 502, 1, 1, 7, 0);
        t.due(7, 505);
        t.thing(503, 1, 5);
        t.thing(503, -1, 5);
        t.thing(503, 1, 51);
        t.number(503, 0, -1);
        t.number(503, 0, 51);
        t.due(7, 510, 0);
        t.due(7, 503, 0, 7);
        t.state(510, 0);
        t.due(7, 505);
        t.due(7, 503, 0, 50);
        t.state(510, 0);
        t.due(50, 503, 0, 0);
        t.due(0, 505);
        t.due(0, 503, 0, 1);
        t.due(1, 505);
        looks(t);
    }

    // "IllegalArgumentException: a side is not 1 .. 16, way not 0, 1, or stages not 0 .. 3."
    private static void worths() {
        Twins t = new Twins();
        t.due(0, 502, 1, 1, 1, 0);
        t.number(504, 0, 1, 0, 3);
        t.number(504, 17, 1, 0, 3);
        t.number(504, 1, 0, 0, 3);
        t.number(504, 1, 17, 0, 3);
        t.number(504, 1, 1, -1, 3);
        t.number(504, 1, 1, 2, 3);
        t.number(504, 1, 1, 0, -1);
        t.number(504, 1, 1, 0, 4);
        int[][] told = {{1, 1, 0, 0, 1}, {1, 1, 1, 0, 1}, {2, 1, 0, 0, 0}, {2, 1, 0, 1, 2}, {2, 1, 1, 1, 0}, {2, 1, 1, 3, 0}, {1, 2, 0, 1, 0},
            {1, 2, 1, 1, 2}, {16, 1, 0, 1, 16}, {1, 16, 1, 1, 16}, {2, 2, 0, 1, 0}, {2, 2, 0, 2, 2}, {2, 2, 1, 2, 2}, {2, 2, 0, 3, 2},
            {16, 16, 0, 2, 240}, {16, 16, 1, 2, 240}};
        for (int[] v : told) {
            t.due(v[4], 504, v[0], v[1], v[2], v[3]);
        }
        // It asks by all stages that are told, whatever STAGES are.
        Twins s = made(0, 1, 1);
        s.due(0, 502, 1, 1, 1, 0);
        s.due(240, 504, 16, 16, 0, 2);
        looks(t);
    }

    // "if all PARTS with a COUNT above 0 are wanted"
    private static void worthOfWanted() {
        Twins t = new Twins();
        t.due(0, 504, 16, 16, 0, 3);
        t.due(0, 502, 3, 3, 0, 0);
        t.due(0, 504, 3, 3, 0, 0);
        t.due(0, 503, 0, 1);
        t.due(9, 504, 3, 3, 0, 0);
        t.due(18, 504, 6, 3, 0, 1);
        t.due(1, 503, 0, 0);
        t.due(0, 504, 3, 3, 0, 0);
        t.due(1, 502, 3, 3, 50, 0);
        t.due(9, 504, 3, 3, 0, 0);
        // A run uses copies up; what is asked of a piece does not look at them.
        t.due(0, 501, 3, 3, 1, 20);
        t.due(20, 505);
        t.due(50, 503, 1, 1);
        t.due(1, 505);
        t.due(9, 504, 3, 3, 1, 0);
        t.due(0, 509, 1);
        looks(t);
    }

    // "may be TURNED (width and height change places) or not"
    private static void turned() {
        Twins t = new Twins();
        t.due(0, 502, 2, 3, 1, 0);
        t.due(6, 504, 2, 3, 0, 0);
        t.due(0, 504, 3, 2, 0, 0);
        t.due(1, 502, 4, 5, 1, 7);
        t.due(20, 504, 4, 5, 0, 0);
        t.due(20, 504, 5, 4, 0, 0);
        t.due(0, 501, 5, 4, 1, 1);
        t.due(1, 505);
        t.due(5, 507, 0, 0, 3);
        t.due(4, 507, 0, 0, 4);
        t.due(0, 506, 0, 3);
        looks(t);
    }

    private static void stale() {
        Twins t = new Twins();
        for (int call : new int[] {506, 507, 508, 509, 510}) {
            t.state(call, 0, 0, 0);
            t.state(call, -1, -1, -1);
        }
        t.due(0, 505);
        t.due(0, 510, 0);
        t.due(0, 501, 1, 1, 1, 1);
        t.state(510, 0);
        t.due(0, 505);
        t.due(0, 502, 1, 1, 1, 0);
        for (int call : new int[] {506, 507, 508, 509, 510}) {
            t.state(call, 99, 99, 99);
        }
        t.due(1, 505);
        t.due(1, 503, 0, 1);
        t.state(509, 0);
        // What needs no run.
        t.due(1, 504, 1, 1, 0, 0);
        t.due(1, 511);
        t.due(1, 505);
        looks(t);
    }

    // "until nothing more is TAKEN from any"
    private static void nothingToCut() {
        Twins t = new Twins();
        t.due(0, 505);
        for (int what = 0; what < 3; what++) {
            t.due(0, 510, what);
        }
        t.thing(506, 0, 0);
        t.thing(509, 0);
        t.due(0, 502, 5, 5, 9, 0);
        t.due(0, 505);
        t.due(9, 509, 0);
        t.due(0, 501, 4, 16, 1, 20);
        t.due(0, 505);
        t.due(9, 509, 0);
        t.thing(506, 0, 0);
        looks(t);
    }

    // "of each SHEET with STOCK"
    private static void stocks() {
        Twins t = new Twins();
        t.due(0, 501, 1, 1, 1, 0);
        t.due(0, 502, 1, 1, 9, 0);
        t.due(0, 505);
        t.due(1, 501, 1, 1, 5, 1);
        t.due(1, 505);
        t.due(1, 506, 0, 0);
        t.due(2, 501, 1, 1, 4, 2);
        t.due(3, 505);
        t.due(2, 506, 0, 0);
        t.due(2, 506, 1, 0);
        t.due(1, 506, 2, 0);
        t.due(13, 510, 0);
        t.due(6, 509, 0);
        looks(t);
    }

    // "Again and again, 20 times at most"
    private static void twenty() {
        Twins t = new Twins();
        t.due(0, 501, 1, 1, 2, 19);
        t.due(1, 501, 1, 1, 5, 20);
        t.due(0, 502, 1, 1, 50, 0);
        t.due(20, 505);
        t.due(0, 506, 18, 0);
        t.due(1, 506, 19, 0);
        t.thing(506, 20, 0);
        t.due(30, 509, 0);
        t.due(43, 510, 0);
        t.due(20, 510, 1);
        t.due(50, 503, 0, 20);
        t.due(20, 505);
        t.due(20, 503, 0, 21);
        t.due(20, 505);
        t.due(1, 509, 0);
        t.due(21, 503, 0, 19);
        t.due(19, 505);
        t.due(38, 510, 0);
        looks(t);
    }

    // "that SHEET is cut that gives most for its CENTS (area of what is TAKEN by CENTS, as a fraction), of several the least"
    private static void mostForCents() {
        int[][] told = {{5, 2, 1}, {4, 2, 0}, {3, 2, 0}, {10000, 5001, 1}, {10000, 5000, 0}, {9999, 5000, 0}, {4, 3, 0}, {1, 1, 0}};
        for (int[] v : told) {
            Twins t = new Twins();
            t.due(0, 501, 2, 2, v[0], 1);
            t.due(1, 501, 2, 1, v[1], 1);
            t.due(0, 502, 2, 1, 9, 0);
            t.due(2, 505);
            t.due(v[0] > 2 * v[1] ? 1 : 0, 506, 0, 0);
            t.due(v[0] > 2 * v[1] ? 0 : 1, 506, 1, 0);
            looks(t);
        }
        // By what is TAKEN, not by the VALUE of the tree: one copy alone is wanted.
        Twins t = new Twins();
        t.due(0, 501, 16, 1, 2, 1);
        t.due(1, 501, 1, 1, 1, 1);
        t.due(0, 502, 1, 1, 1, 0);
        t.due(1, 505);
        t.due(1, 506, 0, 0);
        t.due(1, 503, 0, 2);
        t.due(1, 505);
        t.due(0, 506, 0, 0);
        t.due(2, 510, 0);
        looks(t);
    }

    // "TAKEN are its PARTS in turn (first pieces before second ones), as long as copies are wanted; others are WASTE, too."
    private static void copies() {
        Twins t = new Twins();
        t.due(0, 501, 4, 1, 1, 2);
        t.due(0, 502, 1, 1, 3, 0);
        t.due(1, 505);
        t.due(3, 506, 0, 1);
        t.due(3, 506, 0, 2);
        t.due(3, 506, 0, 3);
        for (int k = 0; k < 3; k++) {
            t.due(k, 507, 0, k, 1);
            t.due(0, 507, 0, k, 2);
        }
        t.thing(507, 0, 3, 0);
        t.due(0, 509, 0);
        t.due(0, 506, 0, 6);
        t.due(3, 503, 0, 4);
        t.due(1, 505);
        t.due(4, 506, 0, 1);
        t.due(4, 503, 0, 5);
        t.due(2, 505);
        t.due(1, 506, 1, 1);
        t.due(3, 506, 1, 3);
        t.due(5, 510, 2);
        t.due(8, 510, 1);
        looks(t);
    }

    // "The BEST one has the greatest VALUE, of these the fewest CUTS; of several: WASTE, then PARTS by numbers, then CUTS by
    // c, of two BEST TREES each."
    private static void treeTies() {
        Twins t = new Twins();
        t.due(0, 501, 6, 1, 1, 1);
        t.due(0, 502, 1, 1, 9, 0);
        t.due(1, 502, 3, 1, 9, 0);
        t.due(1, 505);
        t.due(2, 506, 0, 1);
        t.due(1, 506, 0, 3);
        t.due(1, 507, 0, 0, 0);
        t.due(2, 502, 6, 1, 9, 0);
        t.due(1, 505);
        t.due(0, 506, 0, 3);
        t.due(2, 507, 0, 0, 0);
        t.due(3, 502, 6, 1, 9, 0);
        t.due(1, 505);
        t.due(2, 507, 0, 0, 0);
        // Cuts at 2 and at 4 are as good: the lesser one.
        Twins s = new Twins();
        s.due(0, 501, 6, 1, 1, 1);
        s.due(0, 502, 2, 1, 1, 0);
        s.due(1, 502, 4, 1, 1, 0);
        s.due(1, 505);
        s.due(0, 507, 0, 0, 0);
        s.due(2, 507, 0, 1, 1);
        // Of one part alone the cut that leaves it first: of 3 by 1 at 1, not at 2.
        Twins r = new Twins();
        r.due(0, 501, 3, 1, 1, 1);
        r.due(0, 502, 1, 1, 1, 0);
        r.due(1, 505);
        r.due(2, 506, 0, 3);
        r.due(0, 507, 0, 0, 1);
        looks(t);
    }

    // "That of a sheet is the BEST of both ways with all STAGES; of two as good that of way 0."
    private static void bothWays() {
        Twins t = new Twins();
        t.due(0, 501, 2, 2, 1, 1);
        t.due(0, 502, 1, 2, 9, 0);
        t.due(1, 502, 2, 1, 9, 0);
        t.due(1, 505);
        t.due(0, 506, 0, 4);
        t.due(0, 507, 0, 0, 0);
        t.due(9, 503, 0, 0);
        t.due(1, 505);
        t.due(1, 506, 0, 4);
        t.due(1, 507, 0, 1, 2);
        t.due(9, 503, 1, 0);
        t.due(0, 503, 0, 9);
        t.due(1, 505);
        t.due(0, 506, 0, 4);
        // Nothing to cut is as good both ways.
        t.due(9, 503, 0, 0);
        t.due(2, 502, 2, 2, 9, 0);
        t.due(1, 505);
        t.due(0, 506, 0, 4);
        looks(t);
    }

    /** One sheet of 5 by 4, of which parts of 2 by 3 and 3 by 4 are taken, a rest of 2 by 1 above the first one. */
    private static Twins one() {
        Twins t = made(0, 3, 1);
        t.due(0, 501, 5, 4, 7, 1);
        t.due(0, 502, 2, 3, 1, 0);
        t.due(1, 502, 3, 4, 1, 0);
        t.due(1, 505);
        return t;
    }

    // "IllegalStateException (first); IndexOutOfBoundsException."
    private static void cutAsked() {
        Twins t = one();
        int[] want = {0, 2, 18, 2, 0, 4 + 2, 1, 0};
        for (int what = 0; what < 8; what++) {
            t.due(want[what], 506, 0, what);
        }
        t.thing(506, 1, 0);
        t.thing(506, -1, 0);
        t.thing(506, 0, 8);
        t.thing(506, 0, -1);
        looks(t);
    }

    // "its number (what = 0), x (1), y (2), width (3), height (4) as it lies. As cut()."
    private static void takenAsked() {
        Twins t = one();
        int[][] want = {{0, 0, 1, 2, 3}, {1, 2, 0, 3, 4}};
        for (int k = 0; k < 2; k++) {
            for (int what = 0; what < 5; what++) {
                t.due(want[k][what], 507, 0, k, what);
            }
        }
        t.thing(507, 1, 0, 0);
        t.thing(507, -1, 0, 0);
        t.thing(507, 0, 2, 0);
        t.thing(507, 0, -1, 0);
        t.thing(507, 0, 0, 5);
        t.thing(507, 0, 0, -1);
        t.due(0, 508, 0, 0, 0);
        t.due(0, 508, 0, 0, 1);
        t.due(2, 508, 0, 0, 2);
        t.due(1, 508, 0, 0, 3);
        t.thing(508, 1, 0, 0);
        t.thing(508, -1, 0, 0);
        t.thing(508, 0, 1, 0);
        t.thing(508, 0, -1, 0);
        t.thing(508, 0, 0, 4);
        t.thing(508, 0, 0, -1);
        looks(t);
    }

    // "RESTS are pieces of WASTE .. of which both sides are at least LEAST"
    private static void rests() {
        int[][] told = {{1, 1}, {2, 0}, {3, 0}};
        for (int[] v : told) {
            Twins t = made(0, 3, v[0]);
            t.due(0, 501, 5, 4, 7, 1);
            t.due(0, 502, 2, 3, 1, 0);
            t.due(1, 502, 3, 4, 1, 0);
            t.due(1, 505);
            t.due(v[1], 506, 0, 6);
        }
        Twins t = made(0, 2, 2);
        t.due(0, 501, 6, 6, 7, 1);
        t.due(0, 502, 4, 4, 1, 0);
        t.due(1, 505);
        t.due(2, 506, 0, 6);
        int[][] want = {{0, 0, 4, 2}, {4, 0, 2, 6}};
        for (int k = 0; k < 2; k++) {
            for (int what = 0; what < 4; what++) {
                t.due(want[k][what], 508, 0, k, what);
            }
        }
        looks(t);
    }

    // "(of the TREE alone, not PARTS that were not TAKEN)"
    private static void restsNotTaken() {
        Twins t = made(0, 3, 1);
        t.due(0, 501, 3, 1, 1, 1);
        t.due(0, 502, 1, 1, 1, 0);
        t.due(1, 505);
        t.due(1, 506, 0, 1);
        t.due(0, 506, 0, 6);
        // KERF takes what is behind the last cut: nothing is left of it.
        Twins s = made(3, 3, 1);
        s.due(0, 501, 4, 1, 1, 1);
        s.due(0, 502, 1, 1, 1, 0);
        s.due(1, 505);
        s.due(1, 506, 0, 3);
        s.due(0, 506, 0, 6);
        Twins r = made(3, 3, 1);
        r.due(0, 501, 5, 1, 1, 1);
        r.due(0, 502, 1, 1, 1, 0);
        r.due(1, 505);
        r.due(1, 506, 0, 3);
        r.due(0, 506, 0, 6);
        r.due(2, 504, 5, 1, 0, 1);
        looks(t);
    }

    // "ALIKE are cut sheets of the same SHEET with the same TREE."; "the first cut sheet that is ALIKE, be it itself"
    private static void alike() {
        Twins t = new Twins();
        t.due(0, 501, 2, 1, 1, 3);
        t.due(1, 501, 2, 1, 9, 20);
        t.due(0, 502, 2, 1, 4, 0);
        t.due(1, 502, 1, 1, 3, 0);
        // Part 0 as a whole three times, then a sheet of the other kind, then two of halves.
        t.due(6, 505);
        int[] want = {0, 0, 0, 3, 4, 4};
        for (int k = 0; k < 6; k++) {
            t.due(want[k], 506, k, 7);
            t.due(k < 3 ? 0 : 1, 506, k, 0);
        }
        t.due(1, 506, 5, 1);
        t.due(2, 506, 4, 1);
        looks(t);
    }

    // "MINUTES of a cut sheet: each CUT's length (of the side that it does not part), all together."
    private static void minutes() {
        Twins t = made(0, 2, 1);
        t.due(0, 501, 3, 2, 1, 1);
        t.due(0, 502, 1, 1, 50, 0);
        t.due(1, 505);
        // Two columns of 1 by 2, each parted again; what is left behind the last cut is not parted the other way.
        t.due(0, 506, 0, 4);
        t.due(4, 506, 0, 1);
        t.due(2 + 1 + 2 + 1, 506, 0, 5);
        Twins s = made(0, 1, 1);
        s.due(0, 501, 16, 16, 1, 1);
        s.due(0, 502, 1, 16, 50, 0);
        s.due(1, 505);
        s.due(15 * 16, 506, 0, 5);
        s.due(15, 506, 0, 3);
        Twins r = made(0, 1, 1);
        r.due(0, 501, 16, 16, 1, 1);
        r.due(0, 502, 16, 16, 50, 0);
        r.due(1, 505);
        r.due(0, 506, 0, 5);
        r.due(0, 506, 0, 3);
        looks(t);
    }

    // "How many copies of a PART were not TAKEN. IllegalStateException (first); IndexOutOfBoundsException."
    private static void leftAsked() {
        Twins t = new Twins();
        t.state(509, 5);
        t.due(0, 501, 1, 1, 1, 3);
        t.due(0, 502, 1, 1, 50, 0);
        t.due(1, 502, 2, 2, 7, 0);
        t.due(3, 505);
        t.due(47, 509, 0);
        t.due(7, 509, 1);
        t.thing(509, 2);
        t.thing(509, -1);
        looks(t);
    }

    // "CENTS of all cut sheets (what = 0), their area (1), the area of what is TAKEN (2). IllegalStateException (first);
    // IndexOutOfBoundsException."
    private static void allAsked() {
        Twins t = one();
        t.due(7, 510, 0);
        t.due(20, 510, 1);
        t.due(18, 510, 2);
        t.thing(510, 3);
        t.thing(510, -1);
        t.due(1, 503, 0, 1);
        t.state(510, 3);
        Twins s = new Twins();
        s.due(0, 501, 16, 16, 10000, 20);
        s.due(0, 502, 16, 16, 50, 0);
        s.due(20, 505);
        s.due(200000, 510, 0);
        s.due(5120, 510, 1);
        s.due(5120, 510, 2);
        looks(t);
    }

    // "the area of all PARTS told (by COUNTS) by that of the largest SHEET, upwards"; "0 without a SHEET"
    private static void bounds() {
        Twins t = new Twins();
        t.due(0, 511);
        t.due(0, 502, 3, 3, 4, 0);
        t.due(0, 511);
        t.due(0, 501, 1, 1, 1, 0);
        t.due(36, 511);
        t.due(1, 501, 6, 6, 1, 0);
        t.due(1, 511);
        t.due(2, 501, 5, 7, 1, 0);
        t.due(1, 511);
        t.due(4, 503, 0, 5);
        t.due(2, 511);
        t.due(5, 503, 0, 8);
        t.due(2, 511);
        t.due(8, 503, 0, 9);
        t.due(3, 511);
        t.due(9, 503, 0, 0);
        t.due(0, 511);
        t.due(3, 501, 16, 16, 1, 20);
        for (int i = 1; i < 8; i++) {
            t.due(i, 502, 16, 16, 50, 0);
        }
        t.due(350, 511);
        looks(t);
    }

    // "nothing is cut; COUNTS and STOCKS are as they were told"
    private static void runAgain() {
        Twins t = new Twins();
        t.due(0, 501, 2, 1, 1, 2);
        t.due(0, 502, 1, 1, 3, 0);
        for (int i = 0; i < 4; i++) {
            t.due(2, 505);
            t.due(0, 509, 0);
            t.due(3, 510, 2);
            t.due(2, 510, 0);
            t.due(0, 506, 1, 7);
        }
        looks(t);
    }
}
