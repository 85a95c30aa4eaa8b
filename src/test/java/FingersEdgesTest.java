/** FINGERS: each sentence that names a boundary, its last value that is allowed and its first that is not. */
public final class FingersEdgesTest {
    private static final int[] ASKED = {207, 208, 209, 210, 211, 212, 213};

    public static void main(String[] args) {
        atFirst();
        nearestStep();
        nearestLoss();
        fourTimes();
        forgotten();
        pieces();
        piecesFull();
        noStep();
        wants();
        bars();
        groups();
        stale();
        withoutPieces();
        orders();
        ordersFirst();
        eachOrder();
        lasts();
        lossStays();
        barred();
        alone();
        best();
        most();
        taken();
        worths();
        products();
        joints();
        cures();
        loads();
        tests();
        counts();
        firstBad();
        twoBad();
        tenthBad();
        testsKept();
        Check.end();
    }

    private static void looks(Twins t) {
        for (int k = 0; k < 4; k++) {
            t.same(207, k);
            t.same(208, k);
            t.same(212, k, 5);
            t.same(214, k);
            t.same(215, k);
            for (int what = 0; what < 4; what++) {
                t.same(209, k, what);
                t.same(210, k, what);
            }
        }
    }

    private static Twins made(int step, int loss) {
        Twins t = new Twins();
        t.due(1, 200, step, loss);
        return t;
    }

    private static Twins pieces(Twins t, int... lengths) {
        for (int k = 0; k < lengths.length; k++) {
            t.due(k, 201, lengths[k], 0);
        }
        return t;
    }

    // "(At first: 10, 10.)"
    private static void atFirst() {
        Twins t = new Twins();
        t.number(201, 610, 0);
        t.due(0, 201, 609, 0);
        t.due(1, 201, 20, 0);
        t.due(1, 202, 610, 1);
        t.due(1, 205);
        t.due(1, 208, 1);
        t.due(0, 208, 2);
        t.due(60, 210, 0, 1);
        looks(t);
    }

    // "STEP is the nearest of 1 .. 65536"
    private static void nearestStep() {
        int[][] told = {{-2147483648, 1}, {0, 1}, {1, 1}, {2, 2}, {65535, 65535}, {65536, 65536}, {65537, 65536}, {2147483647, 65536}};
        for (int[] v : told) {
            Twins t = made(v[0], 1);
            t.number(201, 61 * v[1], 0);
            t.due(0, 201, 61 * v[1] - 1, 0);
            t.number(202, 121 * v[1], 1);
            t.number(202, v[1] - 1, 1);
            t.due(1, 202, 121 * v[1] - 1, 1);
            t.due(1, 202, v[1], 1);
            t.due(60, 205);
            looks(t);
        }
    }

    // "loss of 1 .. 65536"; "a joint takes LOSS steps (the least number that holds loss) off the piece that is joined on";
    // "if a piece joined on has not more than LOSS steps"
    private static void nearestLoss() {
        int[][] told = {{1, -2147483648, 1}, {1, 0, 1}, {1, 1, 1}, {1, 2, 2}, {1, 59, 59}, {10, 9, 1}, {10, 10, 1}, {10, 11, 2},
            {10, 20, 2}, {10, 21, 3}, {2000, 65536, 33}, {2000, 65537, 33}, {2000, 70001, 33}, {2000, 2147483647, 33}, {65536, 1, 1},
            {65536, 65536, 1}, {65536, 65537, 1}, {65535, 65535, 1}, {65535, 65536, 2}, {65535, 65537, 2}, {4369, 65535, 15},
            {4369, 65536, 16}, {4369, 70000, 16}};
        for (int[] v : told) {
            Twins t = made(v[0], v[1]);
            t.due(0, 201, 3 * v[0], 0);
            t.due(1, 201, v[2] * v[0], 0);
            t.due(1, 202, 4 * v[0], 1);
            t.due(v[2] < 4 ? 0 : v[2] / 4, 205);
            t.due(0, 208, 1);
            Twins s = made(v[0], v[1]);
            s.due(0, 201, 3 * v[0], 0);
            s.due(1, 201, (v[2] + 1) * v[0], 0);
            s.due(1, 202, 4 * v[0], 1);
            s.due(1, 204, 0, 1);
            s.due(v[2] + 1 < 8 ? 1 : (v[2] + 1) / 4, 205);
            s.due(v[2] + 1 < 4 ? 1 : 0, 208, 1);
            looks(t);
        }
        // LOSS of all that a piece has.
        Twins t = pieces(made(1, 60), 60, 60);
        t.due(1, 202, 61, 1);
        t.due(0, 205);
        looks(t);
    }

    // "1; 0, and nothing, if it was made ANEW 4 times."
    private static void fourTimes() {
        Twins t = new Twins();
        for (int i = 0; i < 4; i++) {
            t.due(1, 200, 1, 2);
        }
        t.due(0, 201, 60, 0);
        t.due(1, 202, 1, 3);
        t.due(60, 205);
        t.due(0, 200, 5, 5);
        t.due(180, 208, 0);
        t.number(201, 61, 0);
        looks(t);
    }

    // "all that was told it is forgotten"
    private static void forgotten() {
        Twins t = pieces(made(1, 1), 5, 5);
        t.due(1, 202, 9, 4);
        t.due(1, 203, 1, 3);
        t.due(1, 204, 0, 1);
        t.due(1, 204, 7, 1);
        t.due(1, 205);
        for (int i = 1; i <= 12; i++) {
            t.due(i, 213, 0, 0);
        }
        t.due(1, 215, 0);
        t.due(2, 215, 1);
        t.due(10, 215, 2);
        t.due(1, 200, 1, 1);
        for (int rule = 0; rule < 3; rule++) {
            t.due(0, 215, rule);
        }
        t.due(0, 214, 0);
        t.due(0, 214, 1);
        t.state(208, 0);
        t.due(0, 205);
        t.due(0, 208, 0);
        t.due(0, 204, 0, 0);
        t.due(0, 204, 7, 0);
        pieces(t, 2, 5);
        t.due(1, 202, 6, 4);
        t.due(1, 203, 4, 5);
        t.due(1, 205);
        t.due(0, 209, 0, 2);
        t.due(2, 210, 0, 1);
        // A bad test behind ANEW is the first one again.
        t.due(1, 213, 0, 0);
        t.due(1, 215, 0);
        t.due(0, 215, 1);
        looks(t);
    }

    // "IllegalStateException: there are 24; IllegalArgumentException: length is below 1 or has more than 60 steps, or
    // group is not 0 .. 7."
    private static void pieces() {
        Twins t = new Twins();
        t.due(0, 205);
        t.number(201, 0, 0);
        t.number(201, -1, 0);
        t.number(201, -2147483648, 0);
        t.number(201, 610, 0);
        t.number(201, 2147483647, 0);
        t.number(201, 10, -1);
        t.number(201, 10, 8);
        t.due(0, 208, 0);
        t.due(0, 201, 1, 0);
        t.state(208, 0);
        t.due(1, 201, 600, 7);
        t.due(2, 201, 609, 3);
        t.number(201, 609, 8);
        t.due(0, 205);
        t.due(120, 208, 2);
        t.thing(207, 3);
        looks(t);
    }

    // "PIECES 0 .. 23"; IllegalStateException ahead of IllegalArgumentException.
    private static void piecesFull() {
        Twins t = new Twins();
        for (int i = 0; i < 24; i++) {
            t.due(i, 201, 10, i % 8);
        }
        t.due(0, 205);
        t.state(201, 10, 0);
        t.state(201, 0, 0);
        t.state(201, 10, 8);
        t.due(24, 208, 2);
        t.due(23, 207, 23);
        t.thing(207, 24);
        looks(t);
    }

    // "a length has as many steps as it has whole ones"; "unless it is at its end"
    private static void noStep() {
        Twins t = new Twins();
        pieces(t, 9, 59, 5, 50, 1);
        t.due(1, 202, 50, 1);
        t.due(1, 202, 60, 100);
        t.due(2, 205);
        t.due(0, 208, 1);
        t.due(0, 208, 2);
        t.due(1, 209, 0, 1);
        t.due(3, 209, 1, 1);
        looks(t);
    }

    // "A PRODUCT more: whether there was room. IllegalArgumentException: length has no step, or more than 120, or worth is
    // not 1 .. 100000."; "PRODUCTS wanted, 0 .. 5"
    private static void wants() {
        Twins t = new Twins();
        t.due(0, 205);
        t.number(202, 9, 1);
        t.number(202, 0, 1);
        t.number(202, -10, 1);
        t.number(202, -2147483648, 1);
        t.number(202, 1210, 1);
        t.number(202, 2147483647, 1);
        t.number(202, 10, 0);
        t.number(202, 10, -1);
        t.number(202, 10, 100001);
        t.due(0, 208, 0);
        t.due(1, 202, 1209, 100000);
        t.state(208, 0);
        t.due(1, 202, 10, 1);
        t.due(1, 202, 19, 2);
        t.due(1, 202, 1200, 3);
        t.due(1, 202, 30, 4);
        t.due(1, 202, 40, 5);
        t.due(0, 205);
        t.due(0, 202, 10, 100000);
        t.number(202, 9, 1);
        t.number(202, 10, 0);
        t.number(202, 1210, 100001);
        t.due(0, 208, 0);
        t.due(0, 201, 20, 0);
        t.due(2, 205);
        t.due(4, 208, 0);
        t.due(2, 209, 1, 0);
        looks(t);
    }

    // "A BAR more: whether there was room. IllegalArgumentException: from is below 0, or to not above it."; "BARS, 8 at
    // most"
    private static void bars() {
        Twins t = pieces(made(1, 1), 4, 4);
        t.due(1, 202, 7, 9);
        t.due(1, 205);
        t.number(203, -1, 5);
        t.number(203, -2147483648, 2147483647);
        t.number(203, 5, 5);
        t.number(203, 5, 4);
        t.number(203, 0, 0);
        t.due(9, 208, 0);
        t.due(1, 203, 0, 1);
        t.state(208, 0);
        for (int i = 0; i < 6; i++) {
            t.due(1, 203, 2147483646, 2147483647);
        }
        t.due(1, 205);
        t.due(1, 203, 4, 5);
        t.due(1, 205);
        // The ninth has no room, and refuses other numbers all the same.
        t.due(0, 203, 3, 5);
        t.due(9, 208, 0);
        t.number(203, -1, 5);
        t.number(203, 5, 5);
        t.due(1, 205);
        Twins s = pieces(made(1, 1), 4, 4);
        s.due(1, 202, 7, 9);
        for (int i = 0; i < 7; i++) {
            s.due(1, 203, 0, 1);
        }
        s.due(1, 203, 3, 5);
        s.due(0, 205);
        looks(t);
    }

    // "A group is ALONE, or not: whether it was not so. IllegalArgumentException: it is not 0 .. 7."
    private static void groups() {
        Twins t = new Twins();
        t.due(0, 205);
        t.number(204, -1, 1);
        t.number(204, 8, 1);
        t.number(204, 2147483647, 0);
        t.number(204, -2147483648, 0);
        for (int g = 0; g < 8; g++) {
            t.due(0, 204, g, 0);
        }
        t.due(0, 208, 0);
        for (int g = 0; g < 8; g++) {
            t.due(1, 204, g, -1);
            t.state(208, 0);
            t.due(0, 205);
            t.due(0, 204, g, 77);
            t.due(0, 208, 0);
        }
        t.due(1, 204, 7, 0);
        t.state(208, 0);
        t.due(0, 205);
        t.due(0, 204, 7, 0);
        t.due(0, 204, 6, 1);
        t.due(0, 208, 0);
        looks(t);
    }

    // "nothing was run since something was told to the part that changed what it reckons with (a .. piece, .. product or
    // bar more always do ..)"
    private static void stale() {
        Twins t = new Twins();
        for (int call : ASKED) {
            t.state(call, -9, -9);
            t.state(call, 99, 9999);
        }
        int[][] tells = {{201, 100, 0}, {202, 50, 5}, {203, 1, 2}, {204, 3, 1}};
        for (int[] tell : tells) {
            t.due(tell[0] == 201 ? 0 : 1, tell);
            for (int call : ASKED) {
                t.state(call, 0, 0);
            }
            t.same(206, 5);
            t.same(208, 0);
        }
        t.due(2, 205);
        t.due(0, 204, 3, 1);
        t.due(1, 211, 0, 7);
        t.due(1, 213, 0, 0);
        t.number(206, 6);
        t.due(10, 208, 0);
        t.due(0, 212, 0, 6);
        looks(t);
    }

    private static void withoutPieces() {
        Twins t = new Twins();
        t.due(1, 202, 10, 1);
        t.due(0, 205);
        for (int what = 0; what < 3; what++) {
            t.due(0, 208, what);
        }
        t.thing(207, 0);
        t.thing(209, 0, 0);
        t.thing(210, 0, 0);
        t.due(0, 206, 0);
        t.due(0, 206, 5);
        t.thing(207, 0);
        Twins s = new Twins();
        s.due(0, 201, 30, 0);
        s.due(0, 205);
        s.due(3, 208, 2);
        s.due(0, 206, 5);
        s.due(3, 208, 2);
        s.due(0, 207, 0);
        looks(t);
    }

    /** Pieces 0 and 2 make a product together, 1 stays alone. */
    private static Twins three() {
        Twins t = made(1, 1);
        t.due(0, 201, 4, 0);
        t.due(1, 201, 4, 1);
        t.due(2, 201, 8, 0);
        t.due(1, 204, 1, 1);
        t.due(1, 202, 10, 100);
        return t;
    }

    private static void order(Twins t, int... want) {
        for (int k = 0; k < want.length; k++) {
            t.due(want[k], 207, k);
        }
    }

    // "The BEST ORDER of the first buffer pieces ..: how many products. IllegalArgumentException: buffer is not 0 .. 5.
    // (Of fewer pieces all.)"
    private static void orders() {
        Twins t = three();
        t.number(206, -1);
        t.number(206, 6);
        t.number(206, 2147483647);
        t.state(208, 0);
        t.due(0, 205);
        order(t, 0, 1, 2);
        t.number(206, 6);
        t.due(0, 206, 0);
        order(t, 0, 1, 2);
        t.due(0, 206, 1);
        order(t, 0, 1, 2);
        t.due(1, 206, 2);
        order(t, 1, 0, 2);
        t.due(1, 206, 3);
        order(t, 0, 2, 1);
        t.due(1, 206, 4);
        order(t, 0, 2, 1);
        t.due(1, 206, 5);
        order(t, 0, 2, 1);
        t.due(5, 208, 2);
        t.due(0, 205);
        order(t, 0, 1, 2);
        looks(t);
    }

    // "the first few pieces (the others stay behind them)"; "of several the first by the pieces' numbers, from the first
    // one on"
    private static void ordersFirst() {
        Twins t = pieces(made(1, 1), 1, 2, 3, 4, 5, 6, 7);
        t.due(0, 206, 5);
        order(t, 0, 1, 2, 3, 4, 5, 6);
        // A product of the sixth piece and the first one: that goes to the end of the first five.
        t.due(1, 204, 0, 1);
        Twins s = made(1, 1);
        for (int k = 0; k < 7; k++) {
            s.due(k, 201, 5, k == 0 || k == 5 ? 2 : 1);
        }
        s.due(1, 204, 2, 1);
        s.due(1, 204, 1, 1);
        s.due(1, 202, 9, 50);
        s.due(2, 205);
        s.due(3, 206, 5);
        order(s, 1, 2, 3, 4, 0, 5, 6);
        s.due(2, 206, 4);
        order(s, 0, 1, 2, 3, 4, 5, 6);
        // As much worth by fewer joints; as many joints by less waste.
        Twins r = pieces(made(1, 1), 6, 2, 2, 6);
        r.due(1, 202, 8, 9);
        r.due(1, 205);
        r.due(2, 208, 1);
        r.due(1, 206, 4);
        r.due(1, 208, 1);
        order(r, 0, 3, 1, 2);
        Twins q = pieces(made(1, 1), 4, 2, 4);
        q.due(1, 202, 5, 10);
        q.due(1, 202, 7, 10);
        q.due(1, 205);
        q.due(4, 208, 2);
        q.due(1, 206, 3);
        q.due(1, 208, 1);
        q.due(2, 208, 2);
        order(q, 0, 2, 1);
        looks(t);
    }

    /** Each order of five pieces, when bars leave room for the joints of that one alone. */
    private static void eachOrder() {
        int[] lengths = {3, 5, 9, 17, 26};
        for (int n = 0; n < 120; n++) {
            int[] want = new int[5];
            StringBuilder left = new StringBuilder("01234");
            for (int place = 0, rest = n, all = 24; place < 5; place++) {
                want[place] = left.charAt(rest / all) - '0';
                left.deleteCharAt(rest / all);
                rest %= all;
                all = place == 4 ? 1 : all / (4 - place);
            }
            Twins t = made(1, 1);
            for (int k = 0; k < 5; k++) {
                int place = 0;
                while (want[place] != k) {
                    place++;
                }
                t.due(k, 201, lengths[place], 0);
            }
            t.due(1, 202, 56, 9);
            int[] joints = {0, 3, 7, 15, 31, 56};
            for (int i = 0; i < 5; i++) {
                t.due(1, 203, joints[i], joints[i + 1]);
            }
            t.due(1, 206, 5);
            order(t, want);
            for (int i = 0; i < 4; i++) {
                t.due(joints[i + 1], 210, i, 1);
            }
            t.due(0, 208, 2);
            t.due(n == 0 ? 1 : 0, 205);
            order(t, 0, 1, 2, 3, 4);
        }
    }

    // "A product can't begin if pieces don't last"; "At a piece's end the line goes on with the next one (no joint)."
    private static void lasts() {
        Twins t = pieces(made(1, 1), 5);
        t.due(1, 202, 6, 1);
        t.due(0, 205);
        t.due(5, 208, 2);
        t.due(1, 201, 1, 0);
        t.due(0, 205);
        t.due(2, 201, 2, 0);
        t.due(0, 205);
        Twins s = pieces(made(1, 1), 5, 2);
        s.due(1, 202, 6, 1);
        s.due(1, 205);
        s.due(0, 208, 2);
        s.due(1, 208, 1);
        Twins r = pieces(made(1, 1), 5, 5);
        r.due(1, 202, 5, 1);
        r.due(2, 205);
        r.due(0, 208, 1);
        r.due(0, 208, 2);
        r.due(1, 209, 1, 1);
        r.due(0, 209, 1, 2);
        r.thing(210, 0, 0);
        // A product that ends where a piece joined on ends.
        Twins q = pieces(made(1, 2), 5, 5, 8);
        q.due(1, 202, 8, 1);
        q.due(2, 205);
        q.due(0, 208, 2);
        q.due(2, 209, 1, 1);
        q.due(0, 209, 1, 2);
        looks(t);
    }

    // "LOSS of its steps are lost at its begin, and the product goes on behind these."
    private static void lossStays() {
        Twins t = pieces(made(1, 2), 4, 4, 4);
        t.due(1, 202, 7, 10);
        t.due(1, 205);
        int[] worths = {10, 2, 1};
        int[] product = {0, 0, 0, 2};
        int[][] joints = {{0, 4, 1}, {0, 6, 2}};
        for (int what = 0; what < 3; what++) {
            t.due(worths[what], 208, what);
            t.due(joints[0][what], 210, 0, what);
            t.due(joints[1][what], 210, 1, what);
        }
        for (int what = 0; what < 4; what++) {
            t.due(product[what], 209, 0, what);
        }
        // One joint less is better than four steps less of waste.
        Twins s = pieces(made(1, 2), 4, 4, 6);
        s.due(1, 202, 7, 10);
        s.due(1, 205);
        s.due(1, 209, 0, 1);
        s.due(0, 209, 0, 2);
        s.due(1, 208, 1);
        s.due(5, 208, 2);
        looks(t);
    }

    // "if a joint's place times STEP is above a bar's begin and below its end"
    private static void barred() {
        // A product of 8 steps of 5 and 5 is joined at 5, or at 4 behind a step of waste: places 50 and 40.
        int[][] told = {{0, 50, 0}, {50, 60, 0}, {49, 50, 0}, {50, 51, 0}, {49, 51, 1}, {40, 51, 1}, {41, 51, 1}, {0, 51, -1}, {39, 60, -1},
            {49, 2147483647, 1}, {0, 2147483647, -1}, {50, 2147483647, 0}, {0, 40, 0}, {41, 42, 0}};
        for (int[] v : told) {
            Twins t = pieces(made(10, 10), 50, 50);
            t.due(1, 202, 80, 3);
            t.due(1, 203, v[0], v[1]);
            t.due(v[2] < 0 ? 0 : 1, 205);
            if (v[2] >= 0) {
                t.due(v[2], 209, 0, 2);
                t.due(5 - v[2], 210, 0, 1);
            }
            looks(t);
        }
        // Places are told in parts: a step of 65536 by 120 is beyond no int.
        Twins s = pieces(made(65536, 1), 60 * 65536, 60 * 65536, 60 * 65536);
        s.due(1, 202, 119 * 65536, 3);
        s.due(1, 203, 60 * 65536 - 1, 60 * 65536 + 1);
        s.due(1, 205);
        s.due(0, 209, 0, 1);
        s.due(1, 209, 0, 2);
        s.due(2, 208, 1);
        s.due(118, 210, 1, 1);
    }

    // "if two groups would be joined of which one is ALONE and the other one another group"
    private static void alone() {
        int[][] told = {{1, 1, 1, 1}, {1, 2, 1, 0}, {1, 2, 2, 0}, {1, 2, 3, 1}, {0, 7, 7, 0}, {0, 7, 0, 0}, {7, 7, 7, 1}, {0, 0, 0, 1}};
        for (int[] v : told) {
            Twins t = made(1, 1);
            t.due(0, 201, 5, v[0]);
            t.due(1, 201, 5, v[1]);
            t.due(1, 202, 9, 3);
            t.due(1, 205);
            t.due(1, 204, v[2], 1);
            t.due(v[3], 205);
            t.due(1, 204, v[2], 0);
            t.due(1, 205);
            looks(t);
        }
    }

    // "The BEST line has the greatest sum of WORTHS; of several the fewest joints; then the least WASTE; then, from the
    // begin on, where two go on otherwise, a product before waste, and the lesser product."
    private static void best() {
        Twins joints = pieces(made(1, 1), 5, 5);
        joints.due(1, 202, 9, 2);
        joints.due(1, 202, 5, 1);
        joints.due(2, 205);
        joints.due(0, 208, 1);
        joints.due(1, 202, 9, 3);
        joints.due(1, 205);
        joints.due(2, 209, 0, 0);
        joints.due(1, 208, 1);
        Twins waste = pieces(made(1, 1), 5);
        waste.due(1, 202, 4, 7);
        waste.due(1, 202, 5, 7);
        waste.due(1, 205);
        waste.due(1, 209, 0, 0);
        waste.due(0, 208, 2);
        Twins first = pieces(made(1, 1), 5);
        first.due(1, 202, 4, 7);
        first.due(1, 205);
        first.due(0, 209, 0, 2);
        first.due(1, 202, 4, 7);
        first.due(1, 205);
        first.due(0, 209, 0, 0);
        first.due(1, 202, 4, 8);
        first.due(1, 205);
        first.due(2, 209, 0, 0);
        Twins lesser = pieces(made(1, 1), 5);
        lesser.due(1, 202, 3, 5);
        lesser.due(1, 202, 2, 5);
        lesser.due(2, 205);
        lesser.due(0, 209, 0, 0);
        lesser.due(1, 209, 1, 0);
        lesser.due(1, 202, 3, 5);
        lesser.due(2, 205);
        lesser.due(0, 209, 0, 0);
        lesser.due(1, 209, 1, 0);
        looks(lesser);
    }

    /** The longest lines: as many products, joints and waste as there can be. */
    private static void most() {
        Twins t = made(1, 1);
        Twins s = made(1, 1);
        Twins r = made(1, 1);
        for (int k = 0; k < 24; k++) {
            t.due(k, 201, 60, 0);
            s.due(k, 201, 2, 0);
            r.due(k, 201, 60, 0);
        }
        t.due(1, 202, 1, 100000);
        t.due(1440, 205);
        t.due(144000000, 208, 0);
        t.due(23, 209, 1439, 1);
        t.due(59, 209, 1439, 2);
        t.due(1440, 206, 5);
        s.due(1, 202, 25, 1);
        s.due(1, 205);
        s.due(23, 208, 1);
        s.due(23, 209, 0, 3);
        s.due(24, 210, 22, 1);
        s.due(23, 210, 22, 2);
        r.due(0, 205);
        r.due(1440, 208, 2);
        r.due(1, 202, 120, 1);
        r.due(11, 205);
        r.due(22, 208, 1);
        looks(t);
        looks(s);
    }

    // "The piece that is the k-th in the line that was run. IllegalStateException (first); IndexOutOfBoundsException."
    private static void taken() {
        Twins t = three();
        t.state(207, -1);
        t.due(0, 205);
        t.due(2, 207, 2);
        t.thing(207, 3);
        t.thing(207, -1);
        t.thing(207, 2147483647);
        looks(t);
    }

    /** Three products in a line of 5, 2, 3 and 2: the second one is joined at 2, and ends where its piece does. */
    private static Twins line() {
        Twins t = pieces(made(1, 1), 5, 2, 3, 2);
        t.due(1, 202, 100, 1);
        t.due(1, 202, 3, 10);
        t.due(3, 205);
        return t;
    }

    // "What the line is worth (what = 0), its joints (1), its waste in steps (2). IllegalStateException (first);
    // IndexOutOfBoundsException: another what."
    private static void worths() {
        Twins t = new Twins();
        t.state(208, 3);
        t.state(208, -1);
        Twins s = line();
        s.due(30, 208, 0);
        s.due(1, 208, 1);
        s.due(2, 208, 2);
        s.thing(208, 3);
        s.thing(208, -1);
        looks(s);
    }

    // "IllegalStateException (first); IndexOutOfBoundsException; IllegalArgumentException: another what."
    private static void products() {
        Twins t = line();
        int[][] want = {{1, 0, 0, 0}, {1, 0, 3, 1}, {1, 2, 0, 0}};
        for (int k = 0; k < 3; k++) {
            for (int what = 0; what < 4; what++) {
                t.due(want[k][what], 209, k, what);
            }
            t.number(209, k, 4);
            t.number(209, k, -1);
        }
        t.thing(209, 3, 0);
        t.thing(209, -1, 0);
        t.thing(209, 3, 4);
        t.thing(209, -1, -1);
        looks(t);
    }

    private static void joints() {
        Twins t = line();
        t.due(1, 210, 0, 0);
        t.due(2, 210, 0, 1);
        t.due(1, 210, 0, 2);
        t.number(210, 0, 3);
        t.number(210, 0, -1);
        t.thing(210, 1, 0);
        t.thing(210, -1, 0);
        t.thing(210, 1, 3);
        t.thing(210, -1, -1);
        looks(t);
    }

    // "Product k must CURE so many hours, from now on: whether that was another number (0 at first; all are 0 when a line is
    // run). IllegalStateException (first); IndexOutOfBoundsException; IllegalArgumentException: hours are not 0 .. 1000."
    private static void cures() {
        Twins t = line();
        t.thing(211, 3, 5);
        t.thing(211, -1, 5);
        t.thing(211, 3, 1001);
        t.number(211, 0, -1);
        t.number(211, 0, 1001);
        t.due(0, 211, 0, 0);
        t.due(1, 211, 0, 1000);
        t.due(0, 211, 0, 1000);
        t.number(211, 0, 1001);
        t.due(0, 212, 0, 999);
        t.due(1, 212, 0, 1000);
        t.due(1, 211, 2, 1);
        t.due(1, 211, 0, 0);
        t.due(1, 212, 0, 0);
        t.due(0, 212, 2, 0);
        t.due(3, 205);
        t.due(1, 212, 2, 0);
        t.due(0, 211, 2, 0);
        t.due(1, 211, 1, 7);
        t.due(3, 206, 0);
        t.due(0, 211, 1, 0);
        looks(t);
    }

    // "may be loaded only hours behind that at which it was made, hour 0"; "IllegalStateException (first);
    // IndexOutOfBoundsException."
    private static void loads() {
        Twins t = line();
        t.thing(212, 3, 0);
        t.thing(212, -1, 0);
        t.due(1, 212, 0, 0);
        t.due(1, 212, 0, 2147483647);
        t.due(1, 211, 0, 5);
        t.due(0, 212, 0, 4);
        t.due(1, 212, 0, 5);
        t.due(1, 212, 1, 4);
        t.due(0, 212, 0, -2147483648);
        looks(t);
    }

    // "A TEST of product k (v is an eighth of what is told: 16 is told by 128), good if v is at least 16: how many tests
    // there were. .. IllegalStateException (first); IndexOutOfBoundsException; IllegalArgumentException: v is not
    // 0 .. 1000."
    private static void tests() {
        Twins t = line();
        t.thing(213, 3, 128);
        t.thing(213, -1, 128);
        t.thing(213, 3, -1);
        t.number(213, 0, -1);
        t.number(213, 0, 8001);
        t.number(213, 0, -2147483648);
        t.number(213, 0, 2147483647);
        t.due(0, 214, 0);
        t.due(0, 214, 1);
        t.due(1, 213, 0, 0);
        t.due(1, 214, 0);
        t.due(2, 213, 0, 127);
        t.due(2, 214, 0);
        t.due(0, 214, 1);
        t.due(3, 213, 2, 128);
        t.due(2, 214, 0);
        t.due(1, 214, 1);
        t.due(4, 213, 2, 8000);
        t.due(2, 214, 1);
        t.number(213, 0, 8001);
        looks(t);
    }

    // "How many tests were bad (0), good (1). IndexOutOfBoundsException."; "IndexOutOfBoundsException: no such rule."
    private static void counts() {
        Twins t = new Twins();
        t.thing(214, 2);
        t.thing(214, -1);
        t.thing(215, 3);
        t.thing(215, -1);
        for (int k = 0; k < 2; k++) {
            t.due(0, 214, k);
        }
        for (int rule = 0; rule < 3; rule++) {
            t.due(0, 215, rule);
        }
        looks(t);
    }

    private static void tell(Twins t, int from, String told) {
        for (int i = 0; i < told.length(); i++) {
            t.due(from + i + 1, 213, 0, told.charAt(i) == 'b' ? 127 : 128);
        }
    }

    // "0 the line stops at the first bad one"; "0 if it did not"
    private static void firstBad() {
        Twins t = line();
        tell(t, 0, "ggg");
        t.due(0, 215, 0);
        tell(t, 3, "b");
        t.due(4, 215, 0);
        tell(t, 4, "bgb");
        t.due(4, 215, 0);
        Twins s = line();
        tell(s, 0, "b");
        s.due(1, 215, 0);
        looks(t);
    }

    // "1 at two bad ones behind one another"
    private static void twoBad() {
        Twins t = line();
        tell(t, 0, "bgbg");
        t.due(0, 215, 1);
        tell(t, 4, "b");
        t.due(0, 215, 1);
        tell(t, 5, "b");
        t.due(6, 215, 1);
        tell(t, 6, "bbgbb");
        t.due(6, 215, 1);
        Twins s = line();
        tell(s, 0, "bb");
        s.due(2, 215, 1);
        looks(t);
    }

    // "2 when bad ones are more than a tenth of all, at ten tests at least"
    private static void tenthBad() {
        Twins t = line();
        tell(t, 0, "bbbbbbbbb");
        t.due(0, 215, 2);
        tell(t, 9, "g");
        t.due(10, 215, 2);
        tell(t, 10, "b");
        t.due(10, 215, 2);
        Twins s = line();
        tell(s, 0, "bggggggggg");
        s.due(0, 215, 2);
        tell(s, 10, "ggggggggg");
        s.due(0, 215, 2);
        tell(s, 19, "b");
        s.due(0, 215, 2);
        tell(s, 20, "b");
        s.due(21, 215, 2);
        Twins r = line();
        tell(r, 0, "gbggggggg");
        r.due(0, 215, 2);
        tell(r, 9, "b");
        r.due(10, 215, 2);
        Twins q = line();
        tell(q, 0, "ggggggggggbggggggggb");
        q.due(0, 215, 2);
        tell(q, 20, "ggggggggggb");
        q.due(0, 215, 2);
        tell(q, 31, "b");
        q.due(32, 215, 2);
        Twins p = line();
        tell(p, 0, "ggggggggggbb");
        p.due(12, 215, 2);
        for (int at = 11; at <= 21; at++) {
            Twins o = line();
            tell(o, 0, "b" + "g".repeat(at - 2) + "b");
            o.due(at < 20 ? at : 0, 215, 2);
        }
        looks(t);
    }

    // "(They are kept also when a line is run.)"
    private static void testsKept() {
        Twins t = line();
        tell(t, 0, "gb");
        t.due(3, 205);
        t.due(1, 214, 0);
        t.due(1, 214, 1);
        t.due(1, 202, 99, 1);
        t.state(213, 0, 0);
        t.due(2, 215, 0);
        t.due(1, 214, 0);
        t.due(3, 206, 3);
        tell(t, 2, "b");
        t.due(3, 215, 1);
        t.due(2, 214, 0);
        looks(t);
    }
}
