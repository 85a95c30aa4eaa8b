/** RIPS: each sentence that names a boundary, its last value that is allowed and its first that is not. */
public final class RipsEdgesTest {
    private static final int[] ASKED = {110, 111, 112, 113, 114, 115, 116, 117};

    public static void main(String[] args) {
        atFirst();
        nearest();
        wholeSteps();
        fourTimes();
        forgotten();
        faults();
        faultsFull();
        pieces();
        piecesFull();
        pieceWidths();
        pieceLengths();
        touching();
        margins();
        allowed();
        gangs();
        needs();
        marginTold();
        bowTold();
        runs();
        stale();
        firstStage();
        ties();
        worthMost();
        pricedRounds();
        pricedFalls();
        pricedEnds();
        pricedAbove();
        pricedAs();
        takenOff();
        asked();
        askedAt();
        clear();
        priceAsked();
        salvaged();
        panels();
        Check.end();
    }

    private static void looks(Twins t) {
        for (int call : new int[] {110, 113, 117}) {
            t.same(call);
        }
        t.same(111, -1, 0);
        for (int k = 0; k < 3; k++) {
            for (int what = 0; what < 6; what++) {
                t.same(111, k, what);
            }
            t.same(112, k);
            for (int part = 0; part < 3; part++) {
                t.same(114, k, part);
                t.same(115, k, part);
            }
            t.same(116, 2, k);
        }
        t.same(115, -1, 0);
    }

    /** A board of LONG by WIDE steps of 10, not cut yet. */
    private static Twins board(int longSteps, int wideSteps) {
        Twins t = new Twins();
        t.due(1, 100, 10 * wideSteps, 10 * longSteps, 10);
        return t;
    }

    /** How many steps the board has, told by what is left over of an uncut one. */
    private static void size(Twins t, int longSteps, int wideSteps) {
        t.due(0, 108, 0, 1);
        t.due(longSteps == 0 ? 0 : wideSteps, 115, -1, 0);
        if (longSteps > 0 && wideSteps > 0) {
            t.due(longSteps, 115, 0, 2);
            t.due(wideSteps - 1, 115, wideSteps - 1, 1);
        }
    }

    // "(At first: 100, 240, 10.)"
    private static void atFirst() {
        Twins t = new Twins();
        size(t, 24, 10);
        t.due(0, 102, 10, 10, 10, 1);
        t.due(240, 108, 0, 2);
        t.due(1, 107, 9);
        t.due(0, 108, 0, 2);
        t.due(-1, 114, 0, 2);
        Twins s = new Twins();
        s.due(0, 106, 0);
        s.due(0, 107, 16777216);
        s.thing(103, 0, 0, 0);
        looks(t);
    }

    // "width, length and STEP are the nearest of 1 .. 65536."
    private static void nearest() {
        int[][] told = {{-2147483648, 5, 1, 5, 1}, {0, 5, 1, 5, 1}, {1, 5, 1, 5, 1}, {2, 5, 1, 5, 2}, {5, -2147483648, 1, 1, 5},
            {5, 0, 1, 1, 5}, {5, 2, -2147483648, 2, 5}, {5, 2, 0, 2, 5}, {5, 2, 1, 2, 5}, {65536, 65536, 65536, 1, 1},
            {65535, 65536, 65536, 1, 0}, {65536, 65535, 65536, 0, 1}, {65536, 65536, 65537, 1, 1}, {65536, 65536, 2147483647, 1, 1},
            {65537, 65536, 65536, 1, 1}, {2147483647, 65536, 65536, 1, 1}, {65536, 2147483647, 65536, 1, 1},
            {65537, 65537, 32769, 1, 1}, {65536, 131072, 32768, 2, 2}, {65536, 65536, 65535, 1, 1}};
        for (int[] v : told) {
            Twins t = new Twins();
            t.due(1, 100, v[0], v[1], v[2]);
            size(t, v[3], v[4]);
        }
    }

    // "LONG = length / STEP steps along x, 24 at most, and WIDE = width / STEP steps along y, 10 at most (cut off, the
    // rest is not looked at; with 0 nothing is cut from it)"
    private static void wholeSteps() {
        int[][] told = {{100, 239, 10, 23, 10}, {100, 240, 10, 24, 10}, {100, 249, 10, 24, 10}, {100, 250, 10, 24, 10},
            {100, 65536, 10, 24, 10}, {99, 240, 10, 24, 9}, {109, 240, 10, 24, 10}, {110, 240, 10, 24, 10},
            {65536, 240, 10, 24, 10}, {9, 240, 10, 24, 0}, {10, 240, 10, 24, 1}, {100, 9, 10, 0, 10}, {100, 10, 10, 1, 10},
            {9, 9, 10, 0, 0}, {19, 19, 10, 1, 1}};
        for (int[] v : told) {
            Twins t = new Twins();
            t.due(1, 100, v[0], v[1], v[2]);
            t.due(0, 102, 1, 1, 65536, 7);
            int pieces = v[3] == 0 ? 0 : v[4];
            t.due(pieces, 108, 0, 1);
            t.due(7L * v[3] * v[4], 110);
            t.due(pieces, 111, -1, 0);
            t.due(0, 115, -1, 0);
            t.due(1, 109, 1);
        }
    }

    // "1; 0, and nothing, if it was made ANEW 4 times."
    private static void fourTimes() {
        Twins t = new Twins();
        for (int i = 0; i < 4; i++) {
            t.due(1, 100, 20, 30, 10);
        }
        t.due(0, 102, 10, 10, 30, 4);
        t.due(2, 108, 0, 2);
        t.due(0, 100, 100, 240, 10);
        t.due(24, 110);
        t.due(0, 100, 1, 1, 1);
        t.due(2, 108, 0, 2);
        looks(t);
    }

    // "all that was told it is forgotten"
    private static void forgotten() {
        Twins t = board(2, 2);
        t.due(0, 102, 10, 10, 10, 4);
        t.due(1, 103, 0, 0, 0);
        t.due(1, 105, 0, 1);
        t.due(1, 101, 0, 1, 0, 0, 5, 5);
        t.due(1, 104, 20);
        t.due(1, 106, 3);
        t.due(1, 107, 15);
        t.due(0, 108, 1, 1);
        t.due(1, 100, 20, 20, 10);
        t.state(110);
        t.thing(105, 0, 1);
        t.due(0, 106, 0);
        t.due(0, 107, 16777216);
        t.due(0, 102, 10, 10, 20, 4);
        // RIPPED first in two stages, without GANG, fault, NEED, and what the piece of before ALLOWS.
        t.due(1, 109, 6);
        t.due(2, 111, -1, 0);
        t.due(2, 111, 0, 2);
        t.due(1, 101, 0, 0, 0, 0, 5, 5);
        t.due(2, 108, 0, 2);
        t.due(1, 111, 0, 2);
        t.due(1, 103, 0, 0, 0);
        t.due(2, 108, 1, 3);
        t.due(1, 104, 20);
        // The way of the latest run is forgotten, too.
        t.due(1, 100, 20, 20, 10);
        t.due(0, 102, 10, 10, 10, 4);
        t.due(1, 109, 6);
        t.due(1, 111, 1, 0);
        t.due(0, 111, 1, 1);
        looks(t);
        smaller();
    }

    /** A board that is smaller than the one before knows nothing of that one. */
    private static void smaller() {
        for (int way = 0; way < 2; way++) {
            for (int stages = 1; stages < 4; stages++) {
                Twins t = board(24, 10);
                t.due(0, 102, 10, 10, 240, 9);
                t.due(1, 102, 100, 10, 240, 9);
                t.same(108, way, stages);
                t.due(1, 100, 30, 50, 10);
                t.due(0, 102, 10, 10, 50, 4);
                t.due(1, 102, 30, 10, 50, 4);
                t.same(108, way, stages);
                boolean thin = way == 0 || stages > 1;
                t.due(thin ? 60 : 20, 110);
                t.due(thin ? 3 : 1, 111, -1, 0);
                t.due(0, 115, -1, 0);
            }
        }
    }

    // "IndexOutOfBoundsException: there is no such face; .. IllegalArgumentException: kind is not 0 .. 7, x or y not
    // -65536 .. 65536, or w or h not 0 .. 65536"; "false: w or h is 0"
    private static void faults() {
        Twins t = new Twins();
        t.due(0, 108, 0, 2);
        t.thing(101, -1, 0, 0, 0, 1, 1);
        t.thing(101, 2, 0, 0, 0, 1, 1);
        t.thing(101, 2, 8, 0, 0, -1, 1);
        t.number(101, 0, -1, 0, 0, 1, 1);
        t.number(101, 0, 8, 0, 0, 1, 1);
        t.number(101, 0, 8, 0, 0, 0, 0);
        t.number(101, 0, 0, -65537, 0, 1, 1);
        t.number(101, 0, 0, 65537, 0, 1, 1);
        t.number(101, 0, 0, 0, -65537, 1, 1);
        t.number(101, 0, 0, 0, 65537, 1, 1);
        t.number(101, 0, 0, 0, 0, -1, 1);
        t.number(101, 0, 0, 0, 0, 65537, 1);
        t.number(101, 0, 0, 0, 0, 1, -1);
        t.number(101, 0, 0, 0, 0, 1, 65537);
        t.number(101, 0, 0, 0, 0, 0, 65537);
        t.number(101, 0, 0, 0, 0, -1, 0);
        t.due(0, 110);
        // No fault came: the plan stays.
        t.due(0, 101, 0, 0, 0, 0, 0, 1);
        t.due(0, 101, 1, 7, 65536, -65536, 1, 0);
        t.due(0, 101, 0, 0, 0, 0, 0, 0);
        t.due(0, 110);
        t.due(1, 101, 0, 0, -65536, -65536, 65536, 65536);
        t.state(110);
        t.due(1, 101, 1, 7, 65536, 65536, 1, 1);
        t.due(0, 108, 0, 2);
        looks(t);
    }

    // "FAULTS (20 at most)"; "IllegalStateException: there are 20", ahead of IllegalArgumentException.
    private static void faultsFull() {
        Twins t = board(2, 1);
        t.due(0, 102, 10, 10, 20, 1);
        t.due(0, 101, 0, 0, 0, 0, 0, 1);
        for (int i = 0; i < 19; i++) {
            t.due(1, 101, 0, 0, 60, 60, 1, 1);
        }
        t.due(0, 101, 0, 0, 0, 0, 1, 0);
        t.number(101, 0, 8, 0, 0, 1, 1);
        t.due(1, 101, 1, 0, 0, 0, 1, 1);
        t.due(1, 108, 0, 2);
        t.due(1, 110);
        t.state(101, 0, 0, 15, 0, 1, 1);
        t.state(101, 0, 8, 0, 0, 1, 1);
        t.state(101, 0, 0, 0, 0, 0, 0);
        t.thing(101, 2, 8, 0, 0, 0, 0);
        t.thing(101, -1, 0, 0, 0, 1, 1);
        t.due(1, 110);
        t.due(1, 108, 0, 2);
        looks(t);
    }

    // "IllegalArgumentException: width or a length is not 1 .. 65536, the least length above the greatest, or worth not
    // 1 .. 100000."
    private static void pieces() {
        Twins t = new Twins();
        t.due(0, 108, 0, 2);
        t.number(102, 0, 1, 1, 1);
        t.number(102, -2147483648, 1, 1, 1);
        t.number(102, 65537, 1, 1, 1);
        t.number(102, 1, 0, 1, 1);
        t.number(102, 1, 65537, 65537, 1);
        t.number(102, 1, 1, 0, 1);
        t.number(102, 1, 1, 65537, 1);
        t.number(102, 1, 6, 5, 1);
        t.number(102, 1, 1, 1, 0);
        t.number(102, 1, 1, 1, 100001);
        t.number(102, 1, 1, 1, -1);
        t.due(0, 110);
        t.due(0, 102, 1, 1, 1, 1);
        t.state(110);
        t.due(1, 102, 65536, 1, 65536, 100000);
        t.due(2, 102, 5, 65536, 65536, 7);
        t.due(3, 102, 5, 5, 5, 7);
        t.thing(103, 4, 0, 0);
        t.thing(105, 4, 0);
        t.due(0, 108, 0, 2);
        looks(t);
    }

    // "IllegalStateException: there are 8", ahead of IllegalArgumentException.
    private static void piecesFull() {
        Twins t = board(3, 1);
        for (int i = 0; i < 8; i++) {
            t.due(i, 102, 10, 10, 30, 1 + i);
        }
        t.due(1, 108, 0, 2);
        t.due(7, 111, 0, 4);
        t.state(102, 10, 10, 30, 99);
        t.state(102, 0, 0, 0, 0);
        t.due(24, 110);
        t.thing(103, 8, 0, 0);
        t.thing(105, 8, 0);
        t.due(1, 105, 7, 1000);
        t.due(1, 108, 0, 2);
        looks(t);
    }

    // "a width: the least number of steps that holds it"
    private static void pieceWidths() {
        int[][] told = {{1, 1}, {9, 1}, {10, 1}, {11, 2}, {20, 2}, {21, 3}, {100, 10}, {101, 11}, {65536, 6554}};
        for (int[] v : told) {
            Twins t = board(1, 10);
            t.due(0, 102, v[0], 1, 65536, 1);
            t.due(10 / v[1], 108, 0, 1);
            if (v[1] <= 10) {
                t.due(v[1], 111, 0, 3);
            }
        }
    }

    // "its length in parts is from the least to the greatest one and not above BOW (16777216 at first)"
    private static void pieceLengths() {
        int[][] told = {{29, 30, 0, 1}, {30, 30, 0, 1}, {31, 39, 0, 0}, {31, 60, 0, 0}, {1, 29, 0, 0}, {1, 30, 0, 1}, {30, 40, 30, 1},
            {30, 40, 29, 0}, {30, 40, 31, 1}};
        for (int[] v : told) {
            // By one stage, RIPPED, a piece is as long as the board: 30.
            Twins t = board(3, 1);
            t.due(0, 102, 10, v[0], v[1], 1);
            if (v[2] > 0) {
                t.due(1, 107, v[2]);
            }
            t.due(v[3], 108, 0, 1);
        }
    }

    /** Nine squares of one step, of which each may be a piece by itself; those that are not lie in the mask. */
    private static void squares(Twins t, int mask) {
        t.due(9 - Integer.bitCount(mask), 108, 0, 2);
        int k = 0;
        for (int at = 0; at < 9; at++) {
            if ((mask >> at & 1) == 0) {
                t.due(at % 3, 111, k, 0);
                t.due(at / 3, 111, k, 1);
                k++;
            }
        }
    }

    private static Twins squared(int x, int y, int w, int h, int mask) {
        Twins t = board(3, 3);
        t.due(0, 102, 10, 10, 10, 1);
        t.due(1, 101, 1, 3, x, y, w, h);
        squares(t, mask);
        return t;
    }

    // "no fault that it does not allow overlaps it (also by less than a step; edges that touch don't)"
    private static void touching() {
        squared(10, 10, 10, 10, 16);
        squared(10, 10, 11, 10, 16 | 32);
        squared(9, 10, 11, 10, 16 | 8);
        squared(10, 9, 10, 11, 16 | 2);
        squared(10, 10, 10, 11, 16 | 128);
        squared(9, 9, 12, 12, 511);
        squared(19, 19, 1, 1, 16);
        squared(19, 19, 2, 1, 16 | 32);
        squared(-5, 0, 5, 30, 0);
        squared(-5, 0, 6, 30, 1 | 8 | 64);
        squared(30, 0, 5, 30, 0);
        squared(29, 0, 5, 30, 4 | 32 | 256);
        squared(0, -5, 30, 5, 0);
        squared(0, -5, 30, 6, 1 | 2 | 4);
        squared(0, 30, 30, 5, 0);
        squared(0, 29, 30, 1, 64 | 128 | 256);
        squared(-65536, -65536, 65536, 65536, 0);
        squared(-1, -1, 65536, 65536, 511);
    }

    // "each reaches MARGIN (0 at first) farther on its four sides"
    private static void margins() {
        Twins t = squared(10, 10, 10, 10, 16);
        t.due(1, 106, 1);
        squares(t, 511);
        Twins s = squared(13, 13, 4, 4, 16);
        s.due(1, 106, 3);
        squares(s, 16);
        s.due(1, 106, 4);
        squares(s, 511);
        Twins r = squared(-20, 10, 10, 10, 0);
        r.due(1, 106, 10);
        squares(r, 0);
        r.due(1, 106, 11);
        squares(r, 1 | 8 | 64);
        Twins q = squared(65536, 65536, 65536, 65536, 0);
        q.due(1, 106, 65506);
        squares(q, 0);
        q.due(1, 106, 65507);
        squares(q, 256);
        q.due(1, 106, 65536);
        squares(q, 511);
    }

    // "A piece ALLOWS faults of a kind on a face. IndexOutOfBoundsException; IllegalArgumentException: kind is not
    // 0 .. 7."; "(none at first)"
    private static void allowed() {
        Twins t = squared(10, 10, 10, 10, 16);
        t.thing(103, -1, 0, 0);
        t.thing(103, 1, 0, 0);
        t.thing(103, 0, -1, 0);
        t.thing(103, 0, 2, 0);
        t.thing(103, 1, 0, 8);
        t.thing(103, 0, 2, 8);
        t.number(103, 0, 0, -1);
        t.number(103, 0, 1, 8);
        t.due(8, 110);
        t.due(1, 103, 0, 0, 3);
        t.state(110);
        t.due(1, 103, 0, 1, 2);
        t.due(1, 103, 0, 1, 4);
        squares(t, 16);
        t.due(0, 103, 0, 0, 3);
        t.due(0, 103, 0, 1, 4);
        t.due(8, 110);
        t.due(1, 103, 0, 1, 3);
        squares(t, 0);
        t.due(1, 103, 0, 1, 7);
        t.due(1, 103, 0, 0, 0);
        t.due(0, 103, 0, 1, 7);
        t.due(0, 103, 0, 0, 0);
        squares(t, 0);
        looks(t);
    }

    // "The GANG has a width (the least number of steps that holds it), too. IllegalArgumentException: it is not
    // 1 .. 65536."
    private static void gangs() {
        Twins t = board(2, 4);
        t.due(0, 102, 20, 20, 20, 3);
        t.due(1, 102, 10, 20, 20, 1);
        t.due(2, 108, 0, 2);
        t.number(104, 0);
        t.number(104, -1);
        t.number(104, 65537);
        t.due(12, 110);
        t.due(1, 104, 10);
        t.state(110);
        t.due(4, 108, 0, 2);
        t.due(8, 110);
        t.due(0, 104, 10);
        t.due(0, 104, 1);
        t.due(0, 104, 9);
        t.due(8, 110);
        t.due(1, 104, 11);
        t.state(110);
        t.due(2, 108, 0, 2);
        t.due(12, 110);
        t.due(0, 104, 20);
        t.due(1, 104, 65536);
        t.due(0, 104, 65536);
        t.due(1, 104, 65530);
        t.due(0, 104, 65521);
        t.due(1, 104, 65520);
        // "The board's segments of its first stage, when it is RIPPED": CROSSCUT first it binds nothing.
        Twins s = board(2, 4);
        s.due(0, 102, 20, 20, 20, 3);
        s.due(1, 104, 10);
        s.due(0, 108, 0, 2);
        s.due(2, 108, 1, 2);
        s.due(2, 108, 1, 3);
        s.due(0, 108, 0, 3);
        looks(t);
    }

    // "The NEED of a piece (one that was not so before takes the plan away, also one of run()).
    // IndexOutOfBoundsException; IllegalArgumentException: n is not 0 .. 1000."
    private static void needs() {
        Twins t = board(2, 1);
        t.thing(105, 0, 0);
        t.due(0, 102, 10, 10, 10, 1);
        t.due(2, 108, 0, 2);
        t.thing(105, 1, 0);
        t.thing(105, -1, 0);
        t.thing(105, 1, 1001);
        t.number(105, 0, -1);
        t.number(105, 0, 1001);
        t.due(2, 110);
        t.due(-1, 114, 0, 2);
        t.due(1, 105, 0, 0);
        t.state(110);
        t.due(2, 108, 0, 2);
        t.due(0, 114, 0, 2);
        t.due(0, 105, 0, 0);
        t.due(2, 110);
        t.due(1, 105, 0, 1000);
        t.state(110);
        t.due(1, 109, 6);
        t.due(1000, 114, 0, 2);
        t.due(0, 105, 0, 1000);
        t.due(2, 110);
        t.due(1, 105, 0, 999);
        t.state(110);
        t.due(2, 108, 0, 2);
        looks(t);
    }

    // "MARGIN. IllegalArgumentException: it is not 0 .. 65536."
    private static void marginTold() {
        Twins t = board(2, 1);
        t.due(0, 108, 0, 2);
        t.number(106, -1);
        t.number(106, 65537);
        t.number(106, 2147483647);
        t.due(0, 106, 0);
        t.due(0, 110);
        t.due(1, 106, 65536);
        t.state(110);
        t.due(0, 108, 0, 2);
        t.due(0, 106, 65536);
        t.number(106, 65537);
        t.due(0, 110);
        t.due(1, 106, 0);
        t.state(110);
        looks(t);
    }

    // "BOW. IllegalArgumentException: most is not 1 .. 16777216."
    private static void bowTold() {
        Twins t = board(2, 1);
        t.due(0, 108, 0, 2);
        t.number(107, 0);
        t.number(107, -1);
        t.number(107, 16777217);
        t.due(0, 107, 16777216);
        t.due(0, 110);
        t.due(1, 107, 1);
        t.state(110);
        t.due(0, 108, 0, 2);
        t.due(0, 107, 1);
        t.number(107, 0);
        t.due(0, 110);
        t.due(1, 107, 16777216);
        t.state(110);
        looks(t);
    }

    // "IllegalArgumentException: way is not 0 or 1, or stages not 1 .. 3."
    private static void runs() {
        Twins t = board(3, 2);
        t.due(0, 102, 10, 10, 10, 2);
        t.number(108, -1, 1);
        t.number(108, 2, 1);
        t.number(108, 0, 0);
        t.number(108, 0, 4);
        t.number(108, 0, -1);
        t.state(110);
        t.due(0, 108, 0, 1);
        t.due(0, 108, 1, 1);
        t.due(6, 108, 0, 2);
        t.due(6, 108, 1, 2);
        t.due(0, 111, 1, 0);
        t.due(1, 111, 1, 1);
        t.due(6, 108, 0, 3);
        t.due(0, 111, 1, 0);
        t.due(6, 108, 1, 3);
        // A refused one leaves the plan, and how it was cut.
        t.number(108, 0, 4);
        t.number(108, 2, 2);
        t.number(109, 0);
        t.number(109, 7);
        t.number(109, -1);
        t.due(12, 110);
        t.due(1, 109, 6);
        t.due(6, 111, -1, 0);
        t.due(1, 109, 1);
        looks(t);
    }

    // "nothing was run since something was told to the part that changed what it reckons with (a .. piece, fault .. more
    // always do; others not, if what they tell was so before); it answers again behind the next run, in RIPS behind
    // prices() too"
    private static void stale() {
        Twins t = board(2, 2);
        int[][] tells = {{102, 10, 10, 20, 1}, {101, 0, 0, 90, 90, 1, 1}, {103, 0, 0, 0}, {104, 10}, {105, 0, 9}, {106, 1}, {107, 99}};
        for (int i = 0; i < tells.length; i++) {
            for (int call : ASKED) {
                t.state(call, -9, -9);
            }
            t.same(i % 2 == 0 ? 108 : 109, i % 2 == 0 ? 0 : 1, 2);
            t.same(110);
            t.due(i == 0 ? 0 : 1, tells[i]);
        }
        for (int call : ASKED) {
            t.state(call, 0, 0);
        }
        t.due(1, 109, 1);
        for (int i = 2; i < tells.length; i++) {
            t.due(0, tells[i]);
            t.due(4, 110);
        }
        t.due(1, tells[1]);
        t.state(110);
        t.due(2, 108, 0, 2);
        t.due(1, tells[0]);
        t.state(117);
        looks(t);
    }

    // "A PLAN of a rectangle by no stage: it is one piece, or it is WASTE. By s stages, 1 .. 3, RIPPED (along y) or
    // CROSSCUT (along x)"
    private static void firstStage() {
        Twins t = board(4, 3);
        t.due(0, 102, 10, 40, 40, 1);
        t.due(1, 102, 30, 10, 20, 5);
        t.due(3, 108, 0, 1);
        t.due(12, 110);
        t.due(2, 108, 1, 1);
        t.due(20, 110);
        t.due(2, 111, 0, 2);
        t.due(3, 111, 0, 3);
        // A piece in a corner needs two stages; what is left by its side a third one.
        Twins s = board(3, 3);
        s.due(0, 102, 20, 20, 20, 9);
        s.due(1, 102, 10, 10, 10, 1);
        s.due(0, 108, 0, 1);
        s.due(4, 108, 0, 2);
        s.due(21, 110);
        s.due(6, 108, 0, 3);
        s.due(23, 110);
        s.due(4, 108, 1, 2);
        s.due(6, 108, 1, 3);
        looks(t);
    }

    // "of several it has the fewest pieces; then, from its begin on, where two go on otherwise, it has the longer segment
    // there (WASTE last), each segment having its own BEST plan. By no stage it is the piece that is worth most, of
    // several that with the least number."
    private static void ties() {
        Twins t = board(3, 1);
        t.due(0, 102, 10, 10, 20, 4);
        t.due(2, 108, 1, 1);
        t.due(2, 111, 0, 2);
        t.due(2, 111, 1, 0);
        t.due(1, 102, 10, 20, 30, 4);
        t.due(1, 108, 1, 1);
        t.due(1, 111, 0, 4);
        t.due(2, 102, 10, 30, 30, 4);
        t.due(1, 108, 1, 1);
        t.due(1, 111, 0, 4);
        t.due(3, 102, 10, 30, 30, 5);
        t.due(1, 108, 1, 1);
        t.due(3, 111, 0, 4);
        Twins s = board(5, 3);
        s.due(0, 102, 20, 20, 20, 4);
        s.due(2, 108, 0, 2);
        s.due(0, 111, 0, 0);
        s.due(0, 111, 0, 1);
        s.due(2, 111, 1, 0);
        s.due(2, 108, 1, 2);
        s.due(0, 111, 1, 1);
        s.due(2, 111, 1, 0);
        looks(t);
    }

    // "The BEST one is worth most (by WORTH times steps of length of all its pieces)"
    private static void worthMost() {
        Twins t = board(24, 10);
        t.due(0, 102, 10, 10, 240, 100000);
        t.due(1, 102, 100, 10, 240, 100000);
        t.due(10, 108, 0, 2);
        t.due(24000000, 110);
        t.due(2400000, 111, 9, 5);
        t.due(24000000, 113);
        t.due(1, 117);
        // One piece across all is worth but a tenth.
        t.due(1, 104, 100);
        t.due(1, 108, 0, 1);
        t.due(2400000, 110);
        looks(t);
    }

    // "ROUND r: .. Then each such price becomes price + (how many the plan has - NEED) * max(1, 256 / r, cut off), not
    // less than 0. .. BOUND is the least VALUE."
    private static void pricedRounds() {
        int[] prices = {0, 256, 384, 469, 533, 584};
        for (int rounds = 1; rounds <= 6; rounds++) {
            Twins t = board(1, 1);
            t.due(0, 102, 10, 10, 10, 1000);
            t.due(1, 105, 0, 0);
            t.due(rounds, 109, rounds);
            t.due(prices[rounds - 1], 114, 0, 0);
            t.due(1000 - prices[rounds - 1], 113);
            // Without a round that has not too many, the latest of them are taken off.
            t.due(0, 111, -1, 0);
            t.due(0, 114, 0, 1);
            t.due(0, 110);
            t.due(0, 117);
            t.due(1, 115, -1, 0);
        }
        // A piece worth just its price is none: of several the fewest pieces.
        int[][] worths = {{255, 2}, {256, 2}, {257, 3}, {384, 3}, {385, 4}, {469, 4}, {470, 5}, {533, 5}, {534, 6}, {584, 6}};
        for (int[] v : worths) {
            Twins t = board(1, 1);
            t.due(0, 102, 10, 10, 10, v[0]);
            t.due(1, 105, 0, 0);
            t.due(v[1], 109, 6);
            t.due(prices[v[1] - 1], 114, 0, 0);
            t.due(0, 113);
            t.due(0, 110);
            t.due(1, 117);
        }
    }

    // "VALUE is that worth and, for each piece with a NEED, its price times it"; "not less than 0"; "of several the
    // earliest"
    private static void pricedFalls() {
        Twins t = board(2, 1);
        t.due(0, 102, 10, 10, 10, 300);
        t.due(1, 105, 0, 1);
        // Prices 0, 256, 384 (no piece), 299, 363 (no piece), 312 (no piece).
        int[] prices = {0, 256, 384, 299, 363, 312};
        int[] values = {600, 344, 384, 301, 363, 312};
        long bound = values[0];
        for (int rounds = 1; rounds <= 6; rounds++) {
            bound = Math.min(bound, values[rounds - 1]);
            t.due(rounds, 109, rounds);
            t.due(prices[rounds - 1], 114, 0, 0);
            t.due(bound, 113);
            t.due(rounds < 3 ? 1 : 0, 111, -1, 0);
            t.due(rounds < 3 ? 300 : 0, 110);
        }
        // More than a price can fall: it is 0, and all that fits is cut by it.
        Twins s = board(2, 1);
        s.due(0, 102, 10, 10, 10, 100);
        s.due(1, 102, 10, 20, 20, 99);
        s.due(1, 105, 0, 1);
        s.due(3, 109, 3);
        s.due(256 + 128 * -1, 114, 0, 0);
        s.due(1, 111, -1, 0);
        s.due(198, 110);
        looks(t);
    }

    // "It ends behind a round whose plan has no more of any than its NEED, and just that of each that had a price above
    // 0, or behind as many rounds as are told."
    private static void pricedEnds() {
        Twins t = board(2, 1);
        t.due(0, 102, 10, 10, 10, 300);
        t.due(1, 109, 6);
        t.due(600, 113);
        t.due(1, 117);
        t.due(1, 105, 0, 2);
        t.due(1, 109, 6);
        t.due(1, 105, 0, 3);
        t.due(1, 109, 6);
        t.due(0, 114, 0, 0);
        t.due(600, 113);
        t.due(1, 105, 0, 1);
        t.due(6, 109, 6);
        // BOUND of the latest prices(), or of a later run().
        t.due(301, 113);
        t.due(0, 117);
        t.due(2, 108, 0, 2);
        t.due(600, 113);
        t.due(0, 114, 0, 0);
        t.due(1, 114, 0, 2);
        t.due(1, 117);
        t.due(1, 109, 1);
        t.due(600, 113);
        t.due(300, 110);
        t.due(0, 117);
        looks(t);
    }

    // "and just that of each that had a price above 0": a price of 1 is above 0.
    private static void pricedAbove() {
        int[] prices = {0, 768, 256, 1, 0, 153};
        long[] values = {3500, 6066, 4262, 3497, 3500, 3953};
        int[] counts = {4, 0, 1, 1, 1, 1};
        long[] worths = {2000, 2994, 3494, 3494, 3494, 3494};
        long bound = values[0];
        for (int rounds = 1; rounds <= 6; rounds++) {
            bound = Math.min(bound, values[rounds - 1]);
            Twins t = board(7, 1);
            t.due(0, 102, 10, 10, 10, 499);
            t.due(1, 102, 10, 10, 10, 500);
            t.due(1, 101, 0, 0, 0, 0, 10, 10);
            t.due(1, 103, 1, 0, 0);
            t.due(1, 105, 1, 4);
            t.due(rounds, 109, rounds);
            t.due(prices[rounds - 1], 114, 1, 0);
            t.due(bound, 113);
            t.due(counts[rounds - 1], 114, 1, 1);
            t.due(worths[rounds - 1], 110);
            looks(t);
        }
    }

    // "PRICED, cut as the latest run() was (RIPPED first in two stages, if there was none)"
    private static void pricedAs() {
        Twins t = board(2, 2);
        t.due(0, 102, 10, 10, 10, 1);
        t.due(1, 109, 1);
        t.due(4, 111, -1, 0);
        t.due(1, 111, 1, 0);
        t.due(4, 108, 1, 2);
        t.due(1, 109, 1);
        t.due(1, 111, 1, 1);
        t.due(0, 108, 0, 1);
        t.due(1, 109, 1);
        t.due(0, 111, -1, 0);
        t.due(1, 106, 5);
        t.due(1, 109, 1);
        t.due(0, 111, -1, 0);
        t.due(1, 100, 20, 20, 10);
        t.due(0, 102, 10, 10, 10, 1);
        t.due(1, 109, 1);
        t.due(4, 111, -1, 0);
        looks(t);
    }

    // "without one the last round's, from which the latest pieces of those that are too many are taken off (they are
    // WASTE)"
    private static void takenOff() {
        Twins t = board(4, 1);
        t.due(0, 102, 10, 10, 10, 90000);
        t.due(1, 101, 0, 0, 30, 0, 10, 10);
        t.due(1, 102, 10, 10, 10, 80000);
        t.due(1, 103, 1, 0, 0);
        t.due(1, 105, 0, 1);
        t.due(1, 109, 1);
        t.due(2, 111, -1, 0);
        t.due(0, 111, 0, 0);
        t.due(0, 111, 0, 4);
        t.due(3, 111, 1, 0);
        t.due(1, 111, 1, 4);
        t.due(170000, 110);
        t.due(350000, 113);
        t.due(1, 115, -1, 0);
        t.due(1, 115, 0, 0);
        t.due(2, 115, 0, 2);
        t.due(1, 114, 0, 1);
        t.due(1, 114, 1, 1);
        t.due(0, 114, 1, 0);
        looks(t);
    }

    // "IllegalStateException (first)", of all that asks for the plan.
    private static void asked() {
        Twins t = new Twins();
        for (int call : ASKED) {
            t.state(call, 0, 0);
            t.state(call, -2147483648, -2147483648);
            t.state(call, 2147483647, 2147483647);
        }
        t.due(0, 108, 0, 2);
        t.due(0, 110);
        t.due(0, 113);
        t.due(1, 117);
        looks(t);
    }

    // "Piece k of the plan .. (k = NONE: how many): .. IllegalStateException (first); IndexOutOfBoundsException;
    // IllegalArgumentException: another what."
    private static void askedAt() {
        Twins t = board(3, 2);
        t.due(0, 102, 10, 10, 20, 7);
        t.due(4, 108, 0, 2);
        int[][] want = {{0, 0, 2, 1, 0, 14}, {2, 0, 1, 1, 0, 7}, {0, 1, 2, 1, 0, 14}, {2, 1, 1, 1, 0, 7}};
        for (int k = 0; k < 4; k++) {
            for (int what = 0; what < 6; what++) {
                t.due(want[k][what], 111, k, what);
            }
            t.number(111, k, 6);
            t.number(111, k, -1);
        }
        t.due(4, 111, -1, 0);
        t.due(4, 111, -1, 5);
        t.thing(111, 4, 0);
        t.thing(111, -2, 0);
        t.thing(111, 4, 6);
        t.thing(111, -2, -1);
        t.thing(111, 2147483647, 0);
        t.thing(111, -2147483648, 0);
        looks(t);
    }

    // "Whether piece k of the plan has no fault at all, on both faces (with MARGIN ..). IllegalStateException (first);
    // IndexOutOfBoundsException."
    private static void clear() {
        Twins t = board(3, 1);
        t.due(0, 102, 10, 10, 10, 1);
        t.due(1, 103, 0, 0, 5);
        t.due(1, 103, 0, 1, 6);
        t.due(1, 101, 0, 5, 5, 0, 5, 1);
        t.due(3, 108, 0, 2);
        t.due(0, 112, 0);
        t.due(1, 112, 1);
        t.due(1, 112, 2);
        t.thing(112, 3);
        t.thing(112, -1);
        t.thing(112, 2147483647);
        t.due(1, 106, 1);
        t.due(3, 108, 0, 2);
        t.due(0, 112, 1);
        t.due(1, 112, 2);
        t.due(1, 101, 1, 6, 29, 9, 1, 1);
        t.state(112, 3);
        t.due(3, 108, 0, 2);
        t.due(0, 112, 2);
        looks(t);
    }

    // "IllegalStateException (first); IndexOutOfBoundsException: also of part."
    private static void priceAsked() {
        Twins t = board(3, 1);
        t.due(0, 108, 0, 2);
        t.thing(114, 0, 0);
        t.due(0, 102, 10, 10, 10, 1000);
        t.due(1, 102, 10, 20, 20, 1);
        t.due(1, 105, 0, 1);
        t.due(2, 109, 2);
        t.due(512, 114, 0, 0);
        t.due(1, 114, 0, 2);
        t.due(0, 114, 1, 0);
        t.due(0, 114, 1, 1);
        t.due(-1, 114, 1, 2);
        t.thing(114, 2, 0);
        t.thing(114, -1, 0);
        t.thing(114, 0, 3);
        t.thing(114, 0, -1);
        t.due(3, 108, 0, 2);
        t.due(0, 114, 0, 0);
        t.due(3, 114, 0, 1);
        t.due(1, 114, 0, 2);
        looks(t);
    }

    // "in rows along x, each as long as can be, by y, then x (k = NONE: how many rows)"; "IllegalStateException (first);
    // IndexOutOfBoundsException; IllegalArgumentException: another what."
    private static void salvaged() {
        Twins t = board(4, 3);
        t.due(0, 102, 10, 10, 10, 1);
        t.due(1, 101, 0, 0, 0, 0, 10, 10);
        t.due(1, 101, 0, 0, 20, 0, 20, 10);
        t.due(1, 101, 0, 0, 0, 20, 40, 10);
        t.due(5, 108, 0, 2);
        int[][] want = {{0, 0, 1}, {2, 0, 2}, {0, 2, 4}};
        for (int k = 0; k < 3; k++) {
            for (int what = 0; what < 3; what++) {
                t.due(want[k][what], 115, k, what);
            }
            t.number(115, k, 3);
            t.number(115, k, -1);
        }
        t.due(3, 115, -1, 0);
        t.due(3, 115, -1, 2);
        t.thing(115, 3, 0);
        t.thing(115, -2, 0);
        t.thing(115, 3, 3);
        t.thing(115, -2, 3);
        t.thing(115, 2147483647, 0);
        t.due(1, 103, 0, 0, 0);
        t.due(12, 108, 0, 2);
        t.due(0, 115, -1, 0);
        t.thing(115, 0, 0);
        looks(t);
    }

    // "the fewest, then those with the least numbers, one by one from the first: the k-th of them ..; NONE if there are
    // not so many, or no panel. .. IllegalArgumentException: width3 is not 1 .. 100, or k below 0."
    private static void panels() {
        Twins t = board(1, 10);
        t.due(0, 102, 10, 10, 10, 3);
        t.due(1, 102, 20, 10, 10, 7);
        t.due(2, 102, 30, 10, 10, 11);
        // Slabs of 3, 3, 3 and 1 steps, the longer ones first.
        t.due(4, 108, 0, 1);
        t.number(116, 0, 0);
        t.number(116, 101, 0);
        t.number(116, -1, 0);
        t.number(116, 1, -1);
        t.number(116, 0, -1);
        t.due(3, 116, 1, 0);
        t.due(-1, 116, 1, 1);
        t.due(-1, 116, 2, 0);
        t.due(0, 116, 3, 0);
        t.due(-1, 116, 3, 1);
        t.due(0, 116, 4, 0);
        t.due(3, 116, 4, 1);
        t.due(-1, 116, 4, 2);
        t.due(0, 116, 10, 0);
        t.due(1, 116, 10, 1);
        t.due(2, 116, 10, 2);
        t.due(3, 116, 10, 3);
        t.due(-1, 116, 10, 4);
        t.due(-1, 116, 11, 0);
        t.due(-1, 116, 100, 0);
        t.due(-1, 116, 10, 2147483647);
        Twins s = board(20, 10);
        s.due(0, 102, 100, 10, 10, 3);
        s.due(20, 108, 1, 1);
        s.due(9, 116, 100, 9);
        s.due(-1, 116, 100, 10);
        s.due(-1, 116, 99, 0);
        s.number(116, 101, 0);
        // The fewest come ahead of the least numbers.
        Twins r = board(2, 5);
        r.due(0, 102, 10, 20, 20, 5);
        r.due(1, 102, 20, 20, 20, 1);
        r.due(1, 101, 0, 0, 0, 40, 20, 10);
        r.due(1, 101, 0, 0, 0, 30, 20, 10);
        r.due(1, 103, 1, 0, 0);
        r.due(4, 108, 0, 1);
        r.due(1, 111, 3, 4);
        r.due(3, 116, 2, 0);
        r.due(-1, 116, 2, 1);
        r.due(0, 116, 3, 0);
        r.due(3, 116, 3, 1);
        r.due(-1, 116, 3, 2);
        looks(t);
    }
}
