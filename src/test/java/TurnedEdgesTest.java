/** TURNED: each sentence that names a boundary, its last value that is allowed and its first that is not. */
public final class TurnedEdgesTest {
    public static void main(String[] args) {
        atFirst();
        fourTimes();
        forgotten();
        starts();
        lines();
        lineRadii();
        linesWithoutProfile();
        arcs();
        arcsWithoutProfile();
        arcEnds();
        arcRadii();
        turns();
        radii();
        abouts();
        tools();
        reaches();
        noses();
        lefts();
        passes();
        passCounts();
        cuts();
        pieceAndTool();
        steadies();
        steadyPlaces();
        volumes();
        hollows();
        copies();
        rings();
        wedges();
        mitres();
        gaps();
        flutes();
        threads();
        rows();
        speeds();
        Check.end();
    }

    private static void looks(Twins t) {
        for (int piece = 0; piece < 3; piece++) {
            for (int what = 0; what < 3; what++) {
                t.same(306, piece, what);
            }
            t.same(305, piece, 1);
            t.same(309, piece, 0);
            t.same(310, piece, 0, 2, 1);
            t.same(312, piece, 3, 0);
            t.same(313, piece, 0);
            t.same(319, piece, 0);
            t.same(320, piece);
            t.same(318, piece, 0, 0);
            t.same(325, piece, 0);
        }
        t.same(323, 7, 0);
        t.same(323, 7, 1);
    }

    /** Whether the PROFILE is as it was: it goes on in the same way, and one more PIECE is turned. */
    private static void goesOn(Twins t, int at, int radius) {
        t.same(302, at, radius);
        t.same(304);
        looks(t);
    }

    /** A PIECE of LINES from place to place: at, radius, at, radius, .. from a radius at place 0 on. */
    private static Twins piece(int radius, int... ways) {
        Twins t = new Twins();
        t.due(0, 301, radius);
        for (int i = 0; i < ways.length; i += 2) {
            t.due(i / 2 + 1, 302, ways[i], ways[i + 1]);
        }
        t.due(0, 304);
        return t;
    }

    private static void atFirst() {
        Twins t = new Twins();
        t.thing(305, 0, 0);
        t.thing(306, 0, 0);
        t.thing(308, 0, 0, 0);
        t.thing(309, 0, 0);
        t.thing(310, 0, 0, 1, 0);
        t.thing(311, 0, 0, 1, 0, 1);
        t.thing(312, 0, 1, 0);
        t.thing(313, 0, 0);
        t.thing(314, 0, 1, 0);
        t.thing(315, 0, 0);
        t.thing(317, 0, 1, 1);
        t.thing(318, 0, 0, 0);
        t.thing(319, 0, 0);
        t.thing(320, 0);
        t.state(323, 0, 0);
        t.thing(325, 0, 0);
        t.state(302, 1, 0);
        t.state(303, 1, 0, 0, 0, 0);
        t.state(304);
        looks(t);
    }

    // "1; 0, and nothing, if it was made ANEW 4 times."
    private static void fourTimes() {
        Twins t = new Twins();
        for (int i = 0; i < 4; i++) {
            t.due(1, 300);
        }
        t.due(0, 301, 7);
        t.due(1, 302, 3, 9);
        t.due(0, 304);
        t.due(0, 307, 1);
        t.due(0, 322, 2, 3);
        t.due(0, 300);
        t.due(9, 305, 0, 3);
        t.due(2, 302, 4, 9);
        goesOn(t, 5, 5);
    }

    // "all that was told it is forgotten"
    private static void forgotten() {
        Twins t = piece(5, 3, 5);
        t.due(0, 307, 1);
        t.due(0, 316);
        t.due(1, 317, 0, 90, 1);
        t.due(0, 322, 2, 3);
        t.due(1, 324, 400, 7);
        t.due(1, 300);
        t.thing(305, 0, 0);
        t.thing(320, 0);
        t.state(302, 4, 5);
        t.state(304);
        t.state(323, 0, 0);
        t.due(0, 301, 5);
        t.state(304);
        t.due(1, 302, 1, 5);
        t.due(0, 304);
        t.thing(309, 0, 0);
        t.state(325, 0, 0);
        t.due(0, 307, 2);
        t.due(0, 316);
        t.due(360, 319, 0, 0);
        t.thing(318, 0, 0, 0);
        t.due(1, 317, 0, 1, 1);
        t.due(1, 324, 1, 9);
        looks(t);
    }

    // "A PROFILE begins, in place of the one before. IllegalArgumentException: radius is not 0 .. 500."
    private static void starts() {
        Twins t = new Twins();
        t.number(301, -1);
        t.number(301, 501);
        t.number(301, 2147483647);
        t.number(301, -2147483648);
        t.state(302, 1, 0);
        t.due(0, 301, 0);
        t.due(1, 302, 5, 500);
        t.due(0, 304);
        t.due(0, 305, 0, 0);
        t.due(0, 301, 500);
        t.state(304);
        t.due(1, 302, 1, 0);
        t.due(1, 304);
        t.due(500, 305, 1, 0);
        t.number(301, 501);
        t.due(2, 302, 2, 0);
        goesOn(t, 3, 0);
    }

    // "at is not behind the last place, or above 64, or radius not 0 .. 500"; "how many WAYS the PROFILE has"
    private static void lines() {
        Twins t = new Twins();
        t.due(0, 301, 10);
        t.number(302, 0, 10);
        t.number(302, -1, 10);
        t.number(302, 65, 10);
        t.number(302, 2147483647, 10);
        t.number(302, 1, -1);
        t.number(302, 1, 501);
        t.state(304);
        t.due(1, 302, 1, 0);
        t.number(302, 1, 10);
        t.number(302, 0, 10);
        t.due(2, 302, 2, 500);
        t.due(3, 302, 64, 0);
        t.number(302, 64, 0);
        t.number(302, 65, 0);
        t.due(0, 304);
        t.due(64, 306, 0, 0);
        t.due(3, 306, 0, 2);
        t.due(500, 305, 0, 2);
        t.due(0, 305, 0, 64);
        Twins s = new Twins();
        s.due(0, 301, 10);
        s.due(1, 302, 64, 10);
        s.due(0, 304);
        s.due(10, 305, 0, 64);
        Twins r = new Twins();
        r.due(0, 301, 1);
        for (int at = 1; at <= 64; at++) {
            r.due(at, 302, at, at % 2);
        }
        r.due(0, 304);
        r.due(64, 306, 0, 2);
        looks(t);
    }

    // "the radius at x is r0 + FLOOR((x - x0) * (r1 - r0) / (x1 - x0))"
    private static void lineRadii() {
        Twins t = piece(10, 3, 9, 6, 10, 8, 10);
        int[] want = {10, 9, 9, 9, 9, 9, 10, 10, 10};
        for (int x = 0; x <= 8; x++) {
            t.due(want[x], 305, 0, x);
        }
        Twins s = piece(500, 64, 0);
        for (int x = 0; x <= 64; x++) {
            s.due(500 + Math.floorDiv(-500 * x, 64), 305, 0, x);
        }
        Twins r = piece(0, 64, 500);
        for (int x = 0; x <= 64; x++) {
            r.due(500 * x / 64, 305, 0, x);
        }
        looks(t);
    }

    // "IllegalStateException: no PROFILE was begun (told behind that of the radius and of an at not 1 .. 64)."
    private static void linesWithoutProfile() {
        Twins t = new Twins();
        t.number(302, 0, 5);
        t.number(302, -1, 5);
        t.number(302, 65, 5);
        t.number(302, 1, -1);
        t.number(302, 1, 501);
        t.state(302, 1, 0);
        t.state(302, 64, 500);
        t.state(302, 33, 5);
        t.state(304);
        t.due(0, 301, 5);
        goesOn(t, 1, 5);
    }

    // "IllegalArgumentException: as line(), or c is not -200 .. 300, or h not -1000 .. 1500"
    private static void arcs() {
        Twins t = new Twins();
        t.due(0, 301, 10);
        t.number(303, 0, 10, 0, 0, 1);
        t.number(303, 65, 10, 0, 0, 1);
        t.number(303, 2, -1, 1, 0, 1);
        t.number(303, 2, 501, 1, 0, 1);
        t.number(303, 2, 10, -201, 0, 1);
        t.number(303, 2, 10, 301, 0, 1);
        t.number(303, 2, 10, 1, -1001, 1);
        t.number(303, 2, 10, 1, 1501, 0);
        t.number(303, 2, 10, 2147483647, 0, 1);
        t.number(303, 2, 10, 1, -2147483648, 1);
        t.due(0, 303, 2, 10, -200, 0, 1);
        t.due(0, 303, 2, 10, 300, 0, 1);
        t.due(1, 303, 2, 10, 1, -1000, 1);
        t.due(1, 303, 4, 10, 3, 1500, 0);
        t.number(303, 4, 10, 5, 0, 1);
        t.number(303, 3, 10, 5, 0, 1);
        t.due(1, 303, 64, 10, 34, 10, 1);
        t.number(303, 65, 10, 34, 10, 1);
        t.due(0, 304);
        t.due(3, 306, 0, 2);
        looks(t);
    }

    // "IllegalStateException as line() (behind c and h, too)."
    private static void arcsWithoutProfile() {
        Twins t = new Twins();
        t.number(303, 0, 5, 0, 0, 0);
        t.number(303, 65, 5, 0, 0, 0);
        t.number(303, 1, -1, 0, 0, 0);
        t.number(303, 1, 501, 0, 0, 0);
        t.number(303, 1, 5, -201, 0, 0);
        t.number(303, 1, 5, 301, 0, 0);
        t.number(303, 1, 5, 0, -1001, 0);
        t.number(303, 1, 5, 0, 1501, 0);
        t.state(303, 1, 0, -200, -1000, 0);
        t.state(303, 64, 500, 300, 1500, 1);
        t.state(304);
        looks(t);
    }

    // "both its ends must be as far from the centre (by squares: Q), and not below h if it is UPPER, not above it else";
    // "whether its ends are as they must be (else nothing changes)"
    private static void arcEnds() {
        Twins t = new Twins();
        t.due(0, 301, 10);
        t.due(0, 303, 6, 11, 3, 10, 1);
        t.due(0, 303, 6, 9, 3, 10, 0);
        t.due(0, 303, 7, 10, 3, 10, 1);
        t.due(0, 303, 6, 10, 3, 11, 1);
        t.due(0, 303, 6, 10, 3, 9, 0);
        t.due(0, 303, 6, 10, 2, 10, 1);
        t.state(304);
        // As far, but the one below h and the other one above it: 3, 4 and 4, 3 from the centre.
        t.due(0, 303, 7, 17, 3, 14, 1);
        t.due(0, 303, 7, 17, 3, 14, 0);
        t.due(0, 303, 7, 11, 3, 14, 1);
        t.due(1, 303, 7, 11, 3, 14, 0);
        t.due(0, 304);
        t.due(1, 306, 0, 2);
        t.due(9, 305, 0, 3);
        // Right at h both ways.
        t.due(1, 303, 13, 11, 10, 11, 1);
        t.due(1, 303, 19, 11, 16, 11, 0);
        t.due(0, 303, 25, 11, 22, 12, 1);
        t.due(1, 303, 25, 11, 22, 12, 0);
        t.due(1, 304);
        t.due(14, 305, 1, 10);
        t.due(8, 305, 1, 16);
        t.due(25, 306, 1, 0);
        t.due(4, 306, 1, 2);
        goesOn(t, 26, 0);
        // The other way round: the first end above h, the second one below it.
        Twins s = new Twins();
        s.due(0, 301, 17);
        s.due(0, 303, 7, 10, 4, 14, 1);
        s.due(0, 303, 7, 10, 4, 14, 0);
        s.state(304);
        s.due(1, 303, 8, 17, 4, 14, 1);
        goesOn(s, 9, 0);
    }

    // "s being the greatest whole number with s * s <= Q - (x - c) * (x - c); but 0 if that is less, 500 if it is more"
    private static void arcRadii() {
        Twins t = new Twins();
        t.due(0, 301, 0);
        t.due(1, 303, 10, 0, 5, 0, 1);
        t.due(0, 304);
        int[] want = {0, 3, 4, 4, 4, 5, 4, 4, 4, 3, 0};
        for (int x = 0; x <= 10; x++) {
            t.due(want[x], 305, 0, x);
        }
        for (int start = 479; start <= 482; start++) {
            Twins s = new Twins();
            s.due(0, 301, start);
            s.due(1, 303, 40, start, 20, start, 1);
            s.due(0, 304);
            s.due(Math.min(500, start + 20), 305, 0, 20);
            s.due(Math.min(500, start + 19), 305, 0, 19);
            s.due(start, 305, 0, 40);
        }
        for (int start = 18; start <= 21; start++) {
            Twins s = new Twins();
            s.due(0, 301, start);
            s.due(1, 303, 40, start, 20, start, 0);
            s.due(0, 304);
            s.due(Math.max(0, start - 20), 305, 0, 20);
            s.due(start - 6, 305, 0, 1);
            s.due(start, 305, 0, 40);
        }
        looks(t);
    }

    // "A PIECE is turned: its number. IllegalStateException: there are 6, or the PROFILE has no WAY."; "the PROFILE stays
    // and may go on"
    private static void turns() {
        Twins t = new Twins();
        t.state(304);
        t.due(0, 301, 5);
        t.state(304);
        t.due(0, 303, 2, 6, 1, 5, 1);
        t.state(304);
        for (int i = 0; i < 6; i++) {
            t.due(i + 1, 302, i + 1, 5);
            t.due(i, 304);
            t.due(i + 1, 306, i, 0);
            t.due(i + 1, 306, i, 2);
        }
        t.state(304);
        t.thing(306, 6, 0);
        t.due(7, 302, 64, 5);
        t.state(304);
        t.due(6, 306, 5, 0);
        t.due(1, 306, 0, 0);
        looks(t);
    }

    // "The radius of a piece at a place. IndexOutOfBoundsException."
    private static void radii() {
        Twins t = piece(7, 4, 8);
        t.due(7, 305, 0, 0);
        t.due(8, 305, 0, 4);
        t.thing(305, 0, 5);
        t.thing(305, 0, -1);
        t.thing(305, 1, 0);
        t.thing(305, -1, 0);
        // The PROFILE goes on, the PIECE does not.
        t.due(2, 302, 6, 8);
        t.thing(305, 0, 5);
        goesOn(t, 7, 8);
    }

    // "LENGTH (what = 0), BLANK (1), how many WAYS it was made of (2). IndexOutOfBoundsException."; "BLANK is its greatest
    // radius and 3"
    private static void abouts() {
        Twins t = piece(7, 4, 20, 9, 3);
        t.due(9, 306, 0, 0);
        t.due(23, 306, 0, 1);
        t.due(2, 306, 0, 2);
        t.thing(306, 0, 3);
        t.thing(306, 0, -1);
        t.thing(306, 1, 0);
        t.thing(306, -1, 0);
        piece(500, 1, 0).due(503, 306, 0, 1);
        piece(0, 1, 0).due(3, 306, 0, 1);
        piece(0, 1, 9).due(12, 306, 0, 1);
        looks(t);
    }

    // "A TOOL more: its number. IllegalArgumentException: nose is not 0 .. 12; IllegalStateException: there are 6."
    private static void tools() {
        Twins t = piece(7, 4, 8);
        t.number(307, -1);
        t.number(307, 13);
        t.thing(308, 0, 0, 0);
        t.due(0, 307, 0);
        t.due(1, 307, 12);
        t.number(307, 13);
        for (int i = 2; i < 6; i++) {
            t.due(i, 307, i);
        }
        t.state(307, 5);
        t.state(307, 12);
        t.number(307, 13);
        t.number(307, -1);
        t.thing(309, 0, 6);
        t.thing(309, 0, -1);
        t.due(0, 309, 0, 5);
        looks(t);
    }

    // "REACHED. IndexOutOfBoundsException."
    private static void reaches() {
        Twins t = piece(7, 4, 8);
        t.due(0, 307, 3);
        t.thing(308, 1, 0, 0);
        t.thing(308, -1, 0, 0);
        t.thing(308, 0, 1, 0);
        t.thing(308, 0, -1, 0);
        t.thing(308, 0, 0, 5);
        t.thing(308, 0, 0, -1);
        t.due(8, 308, 0, 0, 4);
        t.same(308, 0, 0, 0);
        looks(t);
    }

    // "H(d), for d = -n .. n, is the greatest whole number with H * H + d * d <= n * n"; "each over all d with a place
    // x + d of the piece"
    private static void noses() {
        // A groove of one place, ten deep: a NOSE of 0 reaches all, one of 1 goes one into it.
        Twins t = piece(20, 4, 20, 5, 10, 6, 20, 10, 20);
        int[][] told = {{0, 10}, {1, 19}, {2, 19}, {12, 20}, {5, 20}};
        for (int i = 0; i < told.length; i++) {
            t.due(i, 307, told[i][0]);
            t.same(308, 0, i, 5);
        }
        t.due(10, 308, 0, 0, 5);
        t.due(19, 308, 0, 1, 5);
        // A NOSE of 5 in a step that goes down at the end: H is 5, 4, 4, 4, 3, 0 from its middle on.
        Twins s = piece(20, 4, 20, 5, 0, 12, 0);
        s.due(0, 307, 5);
        int[] high = {5, 4, 4, 4, 3, 0};
        for (int x = 5; x <= 12; x++) {
            int least = 1000;
            for (int d = -5; d <= 5; d++) {
                int lift = -1000;
                for (int e = -5; e <= 5; e++) {
                    int at = x + d + e;
                    lift = at < 0 || at > 12 ? lift : Math.max(lift, (at < 5 ? 20 : 0) + high[Math.abs(e)]);
                }
                least = x + d < 0 || x + d > 12 ? least : Math.min(least, lift - high[Math.abs(d)]);
            }
            s.due(least, 308, 0, 0, x);
        }
        s.due(20, 308, 0, 0, 4);
        // At the ends of a piece there is nothing beyond them.
        Twins r = piece(0, 1, 500);
        r.due(0, 307, 0);
        r.due(1, 307, 12);
        r.due(0, 308, 0, 0, 0);
        r.due(499, 308, 0, 1, 0);
        r.due(500, 308, 0, 1, 1);
        // Nor is there what a longer PROFILE had before.
        Twins q = piece(500, 64, 500);
        q.due(0, 307, 12);
        q.due(0, 301, 5);
        q.due(1, 302, 6, 5);
        q.due(1, 304);
        for (int x = 0; x <= 6; x++) {
            q.due(5, 308, 1, 0, x);
        }
        q.due(0, 309, 1, 0);
        q.due(1, 310, 1, 0, 5, 0);
        q.thing(305, 1, 7);
        q.due(8, 306, 1, 1);
        q.due(495, 315, 0, 1);
        looks(t);
    }

    // "LEFT are places where REACHED is above the radius."; "IndexOutOfBoundsException."
    private static void lefts() {
        Twins t = piece(20, 4, 20, 5, 10, 6, 20, 10, 20);
        t.due(0, 307, 0);
        t.due(1, 307, 1);
        t.due(0, 309, 0, 0);
        t.due(1, 309, 0, 1);
        t.thing(309, 1, 0);
        t.thing(309, -1, 0);
        t.thing(309, 0, 2);
        t.thing(309, 0, -1);
        Twins s = piece(20, 4, 20, 5, 19, 6, 20, 10, 20);
        s.due(0, 307, 1);
        s.due(0, 309, 0, 0);
        s.due(1, 307, 2);
        s.due(0, 309, 0, 1);
        looks(t);
    }

    // "IndexOutOfBoundsException; IllegalArgumentException: depth is not 1 .. 100, or skin not 0 .. 50."
    private static void passes() {
        Twins t = piece(7, 4, 8);
        t.due(0, 307, 1);
        t.thing(310, 1, 0, 1, 0);
        t.thing(310, 0, 1, 1, 0);
        t.thing(310, -1, 0, 1, 0);
        t.thing(310, 0, -1, 1, 0);
        t.thing(310, 1, 0, 0, -1);
        t.number(310, 0, 0, 0, 0);
        t.number(310, 0, 0, 101, 0);
        t.number(310, 0, 0, -1, 0);
        t.number(310, 0, 0, 1, -1);
        t.number(310, 0, 0, 1, 51);
        t.due(4, 310, 0, 0, 1, 0);
        t.due(1, 310, 0, 0, 100, 0);
        t.due(0, 310, 0, 0, 1, 50);
        t.due(0, 310, 0, 0, 100, 50);
        looks(t);
    }

    // "pass k (1, 2, ..) cuts the places where WANTED is below BLANK - (k - 1) * depth"; "WANTED at a place is REACHED and
    // the skin, but BLANK at most"
    private static void passCounts() {
        Twins t = piece(10, 5, 3);
        t.due(0, 307, 0);
        t.due(13, 306, 0, 1);
        int[][] told = {{10, 0, 1}, {9, 0, 2}, {11, 0, 1}, {5, 0, 2}, {4, 0, 3}, {1, 0, 10}, {1, 9, 1}, {1, 10, 0}, {1, 11, 0}, {5, 5, 1}, {5, 4, 2}};
        for (int[] v : told) {
            t.due(v[2], 310, 0, 0, v[0], v[1]);
            t.due(0, 311, 0, 0, v[0], v[1], v[2] + 1);
        }
        Twins s = piece(500, 1, 0);
        s.due(0, 307, 0);
        s.due(503, 310, 0, 0, 1, 0);
        s.due(453, 310, 0, 0, 1, 50);
        s.due(6, 310, 0, 0, 100, 0);
        looks(t);
    }

    // "IllegalArgumentException: as passes(), or k is below 1."
    private static void cuts() {
        Twins t = piece(10, 5, 5, 10, 5);
        t.due(0, 307, 0);
        t.thing(311, 1, 0, 1, 0, 1);
        t.thing(311, 0, 1, 1, 0, 1);
        t.thing(311, 1, 0, 0, -1, 0);
        t.number(311, 0, 0, 0, 0, 1);
        t.number(311, 0, 0, 101, 0, 1);
        t.number(311, 0, 0, 1, -1, 1);
        t.number(311, 0, 0, 1, 51, 1);
        t.number(311, 0, 0, 1, 0, 0);
        t.number(311, 0, 0, 1, 0, -2147483648);
        // Radii 10, 9, 8, 7, 6, 5, 5, 5, 5, 5, 5; BLANK is 13.
        int[] want = {11, 11, 11, 10, 9, 8, 7, 6, 0};
        for (int k = 1; k <= 9; k++) {
            t.due(want[k - 1], 311, 0, 0, 1, 0, k);
        }
        t.due(11, 311, 0, 0, 100, 2, 1);
        t.due(10, 311, 0, 0, 100, 3, 1);
        t.due(6, 311, 0, 0, 100, 7, 1);
        t.due(0, 311, 0, 0, 100, 8, 1);
        t.due(0, 311, 0, 0, 100, 50, 1);
        t.due(0, 311, 0, 0, 100, 0, 2);
        t.due(0, 311, 0, 0, 100, 0, 2147483647);
        looks(t);
    }

    /** Each PIECE with each TOOL, which have not the same numbers. */
    private static void pieceAndTool() {
        // A groove of one place: 20, 30, 40 high, 10, 11, 12 deep.
        Twins t = new Twins();
        for (int p = 0; p < 3; p++) {
            int high = 20 + 10 * p;
            t.due(0, 301, high);
            int at = 5 + 5 * p;
            t.due(1, 302, at - 1, high);
            t.due(2, 302, at, 10 + 9 * p);
            t.due(3, 302, at + 1, high);
            t.due(4, 302, at + 3, high);
            t.due(p, 304);
        }
        for (int tool = 0; tool < 2; tool++) {
            t.due(tool, 307, tool);
        }
        for (int p = 0; p < 3; p++) {
            for (int tool = 0; tool < 2; tool++) {
                // A NOSE of 0 reaches the ground, one of 1 but one below the rim.
                int deep = tool == 0 ? 10 + p : 1;
                t.due(20 + 10 * p - deep, 308, p, tool, 5 + 5 * p);
                t.due(tool, 309, p, tool);
                t.due(3 + deep, 310, p, tool, 1, 0);
                t.due(1, 311, p, tool, 1, 0, 3 + deep);
                t.due(0, 311, p, tool, 1, 0, 4 + deep);
                t.due(9 + 5 * p, 311, p, tool, 1, 0, 3);
                t.due(1, 311, p, tool, 1, 0, 4);
            }
            t.thing(308, p, 2, 0);
            t.thing(309, p, 2);
            t.thing(310, p, 2, 1, 0);
            t.thing(311, p, 2, 1, 0, 1);
            t.due(20 + 10 * p, 308, p, 0, 8 + 5 * p);
            t.thing(308, p, 0, 9 + 5 * p);
        }
        looks(t);
    }

    // "IndexOutOfBoundsException: no such piece; IllegalArgumentException: span is not 1 .. 500, or k below 0;
    // IllegalStateException: there are not so many."
    private static void steadies() {
        Twins t = piece(500, 64, 500);
        t.thing(312, 1, 1, 0);
        t.thing(312, -1, 1, 0);
        t.thing(312, 1, 0, -1);
        t.number(312, 0, 0, 0);
        t.number(312, 0, 501, 0);
        t.number(312, 0, 1, -1);
        t.number(312, 0, 501, -1);
        t.number(312, 0, -2147483648, 0);
        t.state(312, 0, 1, 0);
        t.state(312, 0, 1, 2147483647);
        t.due(1, 312, 0, 500, 0);
        t.due(63, 312, 0, 500, 62);
        t.state(312, 0, 500, 63);
        t.due(50, 312, 0, 10, 0);
        t.state(312, 0, 10, 1);
        looks(t);
    }

    // "the next one is the greatest q up to LENGTH with (q - p) * span <= the least radius of places p .. q, but p + 1 if
    // there is none"
    private static void steadyPlaces() {
        Twins t = piece(12, 20, 12);
        int[][] told = {{4, 3}, {5, 2}, {6, 2}, {7, 1}, {12, 1}, {13, 1}, {500, 1}, {1, 12}};
        for (int[] v : told) {
            int count = 19 / v[1];
            for (int k = 0; k < count; k++) {
                t.due(v[1] * (k + 1), 312, 0, v[0], k);
            }
            t.state(312, 0, v[0], count);
        }
        // A neck of 2 at place 5: up to 4 by three (12), then 5 alone by three, and so on.
        Twins s = piece(12, 4, 12, 5, 2, 6, 12, 20, 12);
        s.due(4, 312, 0, 3, 0);
        s.due(5, 312, 0, 3, 1);
        s.due(6, 312, 0, 3, 2);
        s.due(10, 312, 0, 3, 3);
        s.due(14, 312, 0, 3, 4);
        s.due(18, 312, 0, 3, 5);
        s.state(312, 0, 3, 6);
        // Two by two is as much as the neck has, not the least radius of the held place alone.
        s.due(4, 312, 0, 2, 0);
        s.due(5, 312, 0, 2, 1);
        s.due(6, 312, 0, 2, 2);
        s.due(12, 312, 0, 2, 3);
        s.due(18, 312, 0, 2, 4);
        s.state(312, 0, 2, 5);
        Twins r = piece(0, 2, 0);
        r.due(1, 312, 0, 1, 0);
        r.state(312, 0, 1, 1);
        piece(0, 1, 0).state(312, 0, 1, 0);
        looks(s);
    }

    // "FLOOR((sum of a * a) * 314159 / 100000), and FLOOR((sum of b * b) * 314160 / 100000) + 1"
    private static void volumes() {
        Twins t = piece(1, 1, 2, 2, 1);
        t.due(2 * 314159 / 100000, 313, 0, 0);
        t.due(8 * 314160 / 100000 + 1, 313, 0, 1);
        t.due(8 * 314160 / 100000 + 1, 313, 0, -1);
        t.thing(313, 1, 0);
        t.thing(313, -1, 1);
        Twins s = piece(500, 64, 500);
        s.due(16000000L * 314159 / 100000, 313, 0, 0);
        s.due(16000000L * 314160 / 100000 + 1, 313, 0, 1);
        Twins r = piece(0, 1, 0);
        r.due(0, 313, 0, 0);
        r.due(1, 313, 0, 1);
        Twins q = piece(10, 1, 0, 2, 10, 12, 10);
        q.due(1000L * 314159 / 100000, 313, 0, 0);
        q.due(1200L * 314160 / 100000 + 1, 313, 0, 1);
        looks(t);
    }

    // "how many places, from LENGTH down, one behind the other, have a radius less the wall that is not below the bar";
    // "IllegalArgumentException: wall is not 1 .. 100, or bar not 0 .. 100."
    private static void hollows() {
        Twins t = piece(30, 5, 5, 10, 20);
        t.thing(314, 1, 1, 0);
        t.thing(314, -1, 1, 0);
        t.thing(314, 1, 0, -1);
        t.number(314, 0, 0, 0);
        t.number(314, 0, 101, 0);
        t.number(314, 0, 1, -1);
        t.number(314, 0, 1, 101);
        // Radii from LENGTH down: 20, 17, 14, 11, 8, 5, 10, 15, 20, 25, 30.
        t.due(1, 314, 0, 10, 10);
        t.due(0, 314, 0, 10, 11);
        t.due(0, 314, 0, 11, 10);
        t.due(2, 314, 0, 17, 0);
        t.due(1, 314, 0, 18, 0);
        t.due(5, 314, 0, 1, 5);
        t.due(11, 314, 0, 1, 4);
        t.due(11, 314, 0, 5, 0);
        t.due(5, 314, 0, 6, 0);
        t.due(0, 314, 0, 100, 0);
        t.due(0, 314, 0, 1, 100);
        Twins s = piece(200, 3, 200);
        s.due(4, 314, 0, 100, 100);
        piece(199, 3, 199).due(0, 314, 0, 100, 100);
        looks(t);
    }

    // "The greatest difference (without sign) of the radii of two pieces at places that both have.
    // IndexOutOfBoundsException."
    private static void copies() {
        Twins t = piece(30, 5, 30);
        t.due(0, 315, 0, 0);
        t.thing(315, 0, 1);
        t.thing(315, 1, 0);
        t.thing(315, -1, 0);
        t.thing(315, 0, -1);
        t.due(0, 301, 30);
        t.due(1, 302, 4, 30);
        t.due(2, 302, 5, 36);
        t.due(3, 302, 6, 500);
        t.due(1, 304);
        t.due(6, 315, 0, 1);
        t.due(6, 315, 1, 0);
        t.due(0, 301, 500);
        t.due(1, 302, 1, 0);
        t.due(2, 304);
        t.due(470, 315, 0, 2);
        t.due(470, 315, 2, 1);
        t.thing(315, 3, 0);
        looks(t);
    }

    // "A RING more: its number. IllegalStateException: there are 6."
    private static void rings() {
        Twins t = new Twins();
        for (int i = 0; i < 6; i++) {
            t.thing(320, i);
            t.due(i, 316);
            t.due(0, 320, i);
        }
        t.state(316);
        t.thing(320, 6);
        t.thing(320, -1);
        t.thing(317, 6, 1, 1);
        looks(t);
    }

    // "how many it has. IndexOutOfBoundsException; IllegalArgumentException: above is not 1 .. 3600, or below not 1 .. 12;
    // IllegalStateException: there are 16."
    private static void wedges() {
        Twins t = new Twins();
        t.due(0, 316);
        t.thing(317, 1, 1, 1);
        t.thing(317, -1, 1, 1);
        t.thing(317, 1, 0, 0);
        t.number(317, 0, 0, 1);
        t.number(317, 0, 3601, 1);
        t.number(317, 0, 1, 0);
        t.number(317, 0, 1, 13);
        t.number(317, 0, -1, -1);
        t.due(360, 319, 0, 0);
        t.due(1, 317, 0, 1, 1);
        t.due(2, 317, 0, 3600, 12);
        t.due(59, 319, 0, 0);
        for (int i = 3; i <= 16; i++) {
            t.due(i, 317, 0, 1, 12);
        }
        t.state(317, 0, 1, 1);
        t.number(317, 0, 0, 1);
        t.number(317, 0, 1, 13);
        t.due(347, 319, 0, 0);
        t.due(6, 319, 0, 1);
        t.thing(318, 0, 16, 0);
        t.due(1, 316);
        t.due(1, 317, 1, 3600, 1);
        t.due(-3240, 319, 1, 0);
        looks(t);
    }

    // "The MITRE of a wedge. IndexOutOfBoundsException."; "above (part = 0) and below (1), without a common divisor, below
    // 1 at least"
    private static void mitres() {
        Twins t = new Twins();
        t.due(0, 316);
        t.thing(318, 0, 0, 0);
        t.due(1, 317, 0, 90, 1);
        t.due(2, 317, 0, 45, 1);
        t.due(3, 317, 0, 360, 7);
        t.due(4, 317, 0, 1, 12);
        t.due(5, 317, 0, 3600, 1);
        int[][] want = {{45, 1}, {45, 2}, {180, 7}, {1, 24}, {1800, 1}};
        for (int k = 0; k < 5; k++) {
            t.due(want[k][0], 318, 0, k, 0);
            t.due(want[k][1], 318, 0, k, 1);
        }
        t.thing(318, 0, 5, 0);
        t.thing(318, 0, -1, 0);
        t.thing(318, 0, 0, 2);
        t.thing(318, 0, 0, -1);
        t.thing(318, 1, 0, 0);
        t.thing(318, -1, 0, 0);
        looks(t);
    }

    // "The GAP of a ring (below 0 if its wedges are too much). IndexOutOfBoundsException."; "it CLOSES if that is 0"
    private static void gaps() {
        Twins t = new Twins();
        t.due(0, 316);
        t.due(360, 319, 0, 0);
        t.due(1, 319, 0, 1);
        t.thing(319, 0, 2);
        t.thing(319, 0, -1);
        t.thing(319, 1, 0);
        t.thing(319, -1, 0);
        for (int below = 1; below <= 12; below++) {
            t.due(below, 317, 0, 360 / 12, 1);
        }
        t.due(1, 320, 0);
        t.due(0, 319, 0, 0);
        t.due(1, 319, 0, 1);
        t.due(13, 317, 0, 1, 11);
        t.due(0, 320, 0);
        t.due(-1, 319, 0, 0);
        t.due(11, 319, 0, 1);
        // Fractions of all belows together make it close.
        t.due(1, 316);
        t.due(1, 317, 1, 3600 - 3, 10);
        t.due(3, 319, 1, 0);
        t.due(10, 319, 1, 1);
        t.due(2, 317, 1, 1, 6);
        t.due(2, 319, 1, 0);
        t.due(15, 319, 1, 1);
        t.due(3, 317, 1, 1, 7);
        t.due(-1, 319, 1, 0);
        t.due(105, 319, 1, 1);
        t.due(0, 320, 1);
        looks(t);
    }

    // "IndexOutOfBoundsException; IllegalArgumentException: n is not 1 .. 1000, or k not 0 .. n - 1."
    private static void flutes() {
        Twins t = new Twins();
        t.thing(321, 4, 0, 2);
        t.thing(321, 4, 0, -1);
        t.thing(321, 0, 0, 2);
        t.number(321, 0, 0, 0);
        t.number(321, 1001, 0, 0);
        t.number(321, -5, 0, 1);
        t.number(321, 4, -1, 0);
        t.number(321, 4, 4, 0);
        t.number(321, 1, 1, 0);
        t.due(0, 321, 1, 0, 0);
        t.due(1, 321, 1, 0, 1);
        t.due(270, 321, 4, 3, 0);
        t.due(1, 321, 4, 3, 1);
        t.due(999 * 9, 321, 1000, 999, 0);
        t.due(25, 321, 1000, 999, 1);
        t.number(321, 1000, 1000, 0);
        looks(t);
    }

    // "IllegalArgumentException: one is not 1 .. 1000."; "IndexOutOfBoundsException; IllegalArgumentException: k is not
    // 0 .. 100000; IllegalStateException: there is no PITCH."
    private static void threads() {
        Twins t = new Twins();
        t.number(322, 0, 1);
        t.number(322, 1001, 1);
        t.number(322, 1, 0);
        t.number(322, 1, 1001);
        t.number(322, -1, -1);
        t.thing(323, 0, 2);
        t.thing(323, 0, -1);
        t.thing(323, -1, 2);
        t.number(323, -1, 0);
        t.number(323, 100001, 0);
        t.state(323, 0, 0);
        t.state(323, 100000, 1);
        t.due(0, 322, 1, 1000);
        t.due(100, 323, 100000, 0);
        t.due(1, 323, 100000, 1);
        t.due(0, 322, 1000, 1);
        t.due(100000000, 323, 100000, 0);
        t.due(0, 323, 0, 0);
        t.due(1, 323, 0, 1);
        t.number(322, 1, 1001);
        t.number(322, 0, 5);
        t.number(323, 100001, 0);
        t.number(323, -1, 0);
        t.thing(323, 100001, 2);
        t.due(0, 322, 25, 10);
        t.due(15, 323, 6, 0);
        t.due(5, 323, 1, 0);
        t.due(2, 323, 1, 1);
        looks(t);
    }

    // "IllegalArgumentException: radius is not 1 .. 500, or not above the one before, or turns not 1 .. 10000;
    // IllegalStateException: there are 8."
    private static void rows() {
        Twins t = piece(0, 4, 400);
        t.number(324, 0, 1);
        t.number(324, -1, 1);
        t.number(324, 501, 1);
        t.number(324, 1, 0);
        t.number(324, 1, 10001);
        t.state(325, 0, 0);
        t.due(1, 324, 1, 1);
        t.number(324, 1, 1);
        t.number(324, 0, 1);
        t.due(2, 324, 2, 10000);
        t.number(324, 2, 1);
        for (int i = 3; i < 8; i++) {
            t.due(i, 324, 10 * i, 10 * i);
        }
        t.number(324, 70, 1);
        t.number(324, 501, 1);
        t.due(8, 324, 499, 5);
        t.state(324, 500, 1);
        t.number(324, 499, 1);
        t.number(324, 501, 1);
        t.number(324, 500, 0);
        t.due(5, 325, 0, 4);
        Twins s = piece(0, 4, 400);
        s.due(1, 324, 500, 10000);
        s.number(324, 500, 1);
        s.number(324, 501, 1);
        looks(t);
    }

    // "of the first row whose radius is not below it, else of the last one. IndexOutOfBoundsException;
    // IllegalStateException: there are no rows."
    private static void speeds() {
        Twins t = piece(0, 4, 40);
        t.thing(325, 1, 0);
        t.thing(325, -1, 0);
        t.thing(325, 0, 5);
        t.thing(325, 0, -1);
        t.state(325, 0, 0);
        t.due(1, 324, 10, 900);
        for (int x = 0; x <= 4; x++) {
            t.due(900, 325, 0, x);
        }
        t.due(2, 324, 19, 700);
        t.due(3, 324, 30, 500);
        int[] want = {900, 900, 500, 500, 500};
        for (int x = 0; x <= 4; x++) {
            t.due(want[x], 325, 0, x);
        }
        t.due(4, 324, 39, 300);
        t.due(300, 325, 0, 4);
        t.due(500, 325, 0, 3);
        t.thing(325, 1, 0);
        looks(t);
    }
}
