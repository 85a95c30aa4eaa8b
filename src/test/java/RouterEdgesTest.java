/** ROUTER: each sentence that names a boundary, its last value that is allowed and its first that is not. */
public final class RouterEdgesTest {
    public static void main(String[] args) {
        atFirst();
        nearest();
        fourTimes();
        forgotten();
        targets();
        keeps();
        tools();
        units();
        room();
        letters();
        digits();
        numbers();
        numbersBySide();
        order();
        spaces();
        statementsFull();
        endsOfText();
        programStays();
        runsAsked();
        aboutAsked();
        steps();
        noSteps();
        halves();
        crashes();
        breaches();
        times();
        discs();
        cells();
        checks();
        reached();
        reachedKept();
        pieces();
        blank();
        heightsStay();
        Check.end();
    }

    private static void looks(Twins t) {
        for (int what = 0; what < 6; what++) {
            t.same(607, what);
        }
        for (int what = 0; what < 4; what++) {
            t.same(609, what);
            t.same(610, what);
        }
        for (int what = 0; what < 3; what++) {
            t.same(608, 0, 0, what);
            t.same(608, 1, 1, what);
        }
        t.same(611);
    }

    private static Twins made(int side) {
        Twins t = new Twins();
        t.due(1, 600, side);
        return t;
    }

    private static void run(Twins t, String text, int statements, int want) {
        t.read(604, text, statements);
        t.due(want, 606);
    }

    // "(At first: 20.)"; "HEIGHT (100 at first) and a TARGET (100 at first)"; "RADIUS r 0 .. 6 (0 at first) and a FEED
    // 1 .. 10 (1)"
    private static void atFirst() {
        Twins t = new Twins();
        t.due(100, 608, 19, 19, 0);
        t.due(100, 608, 19, 19, 1);
        t.due(0, 608, 19, 19, 2);
        t.thing(608, 20, 0, 0);
        t.thing(608, 0, 20, 0);
        t.state(606);
        t.state(607, 0);
        t.due(0, 609, 0);
        t.due(0, 609, 1);
        t.due(-1, 609, 2);
        t.due(-1, 609, 3);
        t.due(1, 611);
        for (int tool = 0; tool < 4; tool++) {
            t.due(0, 610, tool);
            run(t, "T" + tool + ";G1Z9" + tool + ";", 2, 0);
            t.due(10 + 10 - tool, 607, 0);
            t.due(1, 609, 1);
            t.due(0, 612);
        }
        looks(t);
    }

    // "SIDE the nearest of 2 .. 20."
    private static void nearest() {
        int[][] told = {{-2147483648, 2}, {0, 2}, {1, 2}, {2, 2}, {3, 3}, {19, 19}, {20, 20}, {21, 20}, {2147483647, 20}};
        for (int[] v : told) {
            Twins t = made(v[0]);
            t.due(100, 608, v[1] - 1, v[1] - 1, 0);
            t.thing(608, v[1], 0, 0);
            t.thing(608, 0, v[1], 0);
            t.read(604, "G0X" + (v[1] - 1) + ";", 1);
            t.read(604, "G0X" + v[1] + ";", -4);
            looks(t);
        }
    }

    // "1; 0, and nothing, if it was made ANEW 4 times."
    private static void fourTimes() {
        Twins t = new Twins();
        for (int i = 0; i < 4; i++) {
            t.due(1, 600, 5);
        }
        run(t, "G1Z90;", 1, 0);
        t.write(604, "T1;");
        t.due(0, 600, 9);
        t.due(1, 605);
        t.due(90, 608, 0, 0, 0);
        t.due(10, 607, 0);
        t.thing(608, 5, 0, 0);
        looks(t);
    }

    // "all that was told it is forgotten"
    private static void forgotten() {
        Twins t = made(5);
        t.due(0, 601, 0, 0, 4, 4, 50);
        t.due(0, 602, 4, 4, 4, 4, 1);
        t.due(0, 603, 0, 1, 9);
        run(t, "G1Z90;", 1, 0);
        t.write(604, "T1;");
        t.due(1, 600, 5);
        t.due(-1, 605);
        t.state(606);
        t.state(607, 0);
        t.due(100, 608, 0, 0, 0);
        t.due(100, 608, 0, 0, 1);
        t.due(0, 608, 4, 4, 2);
        run(t, "G1Z90;", 1, 0);
        t.due(10, 607, 0);
        t.due(1, 609, 1);
        looks(t);
    }

    // "TARGET of all cells from x0, y0 to x1, y1 (both in). IndexOutOfBoundsException; IllegalArgumentException: x1 is below
    // x0, or y1 below y0, or height not 0 .. 100."
    private static void targets() {
        Twins t = made(6);
        for (int i = 1; i <= 4; i++) {
            for (int v : new int[] {-1, 6, 2147483647, -2147483648}) {
                int[] call = {601, 2, 2, 3, 3, 50};
                call[i] = v;
                t.thing(call);
                call[5] = 101;
                t.thing(call);
            }
        }
        t.thing(601, 6, 0, 0, 0, 50);
        t.number(601, 3, 2, 2, 3, 50);
        t.number(601, 2, 3, 3, 2, 50);
        t.number(601, 2, 2, 3, 3, -1);
        t.number(601, 2, 2, 3, 3, 101);
        t.due(0, 609, 0);
        t.due(0, 601, 2, 1, 3, 1, 99);
        t.due(2, 609, 0);
        t.due(8, 609, 2);
        t.due(100, 608, 1, 1, 1);
        t.due(99, 608, 2, 1, 1);
        t.due(99, 608, 3, 1, 1);
        t.due(100, 608, 4, 1, 1);
        t.due(100, 608, 2, 0, 1);
        t.due(100, 608, 2, 2, 1);
        t.due(0, 601, 0, 0, 5, 5, 0);
        t.due(36, 609, 0);
        t.due(0, 601, 5, 5, 5, 5, 100);
        t.due(35, 609, 0);
        t.due(0, 601, 0, 0, 0, 0, 100);
        t.due(1, 609, 2);
        looks(t);
    }

    // "Cells are KEPT, or not. As target()."
    private static void keeps() {
        Twins t = made(6);
        for (int i = 1; i <= 4; i++) {
            for (int v : new int[] {-1, 6}) {
                int[] call = {602, 2, 2, 3, 3, 1};
                call[i] = v;
                t.thing(call);
            }
        }
        t.thing(602, 6, 0, 0, 0, 1);
        t.number(602, 3, 2, 2, 3, 1);
        t.number(602, 2, 3, 3, 2, 1);
        t.due(0, 608, 2, 2, 2);
        t.due(0, 602, 2, 1, 3, 1, -5);
        t.due(1, 608, 2, 1, 2);
        t.due(1, 608, 3, 1, 2);
        t.due(0, 608, 1, 1, 2);
        t.due(0, 608, 4, 1, 2);
        t.due(0, 608, 2, 0, 2);
        t.due(0, 608, 2, 2, 2);
        t.due(0, 602, 3, 1, 3, 1, 0);
        t.due(0, 608, 3, 1, 2);
        t.due(1, 608, 2, 1, 2);
        t.due(0, 602, 0, 0, 5, 5, 1);
        t.due(1, 608, 5, 5, 2);
        t.due(1, 608, 0, 0, 2);
        looks(t);
    }

    // "A tool's RADIUS and FEED. IndexOutOfBoundsException; IllegalArgumentException: radius is not 0 .. 6, or feed not
    // 1 .. 10."
    private static void tools() {
        Twins t = made(20);
        t.thing(603, -1, 0, 1);
        t.thing(603, 4, 0, 1);
        t.thing(603, 4, 7, 0);
        t.number(603, 0, -1, 1);
        t.number(603, 0, 7, 1);
        t.number(603, 0, 0, 0);
        t.number(603, 0, 0, 11);
        run(t, "G1Z99;", 1, 0);
        t.due(1, 607, 0);
        t.due(1, 609, 1);
        t.due(0, 603, 0, 6, 10);
        run(t, "G1Z98;", 1, 0);
        t.due(20, 607, 0);
        t.due(2 * cellsOfDisc(0, 0, 6) - 1, 607, 5);
        t.number(603, 0, 7, 10);
        t.number(603, 0, 6, 11);
        t.due(0, 603, 3, 0, 1);
        run(t, "T3;G1Z97;", 2, 0);
        t.due(13, 607, 0);
        t.due(1, 607, 5);
        looks(t);
    }

    private static int cellsOfDisc(int x0, int y0, int r) {
        int count = 0;
        for (int x = 0; x < 20; x++) {
            for (int y = 0; y < 20; y++) {
                count += (x - x0) * (x - x0) + (y - y0) * (y - y0) <= r * r ? 1 : 0;
            }
        }
        return count;
    }

    // "A character more behind the text: whether there was room, and it is 32 .. 126."
    private static void units() {
        Twins t = new Twins();
        int[][] told = {{31, 0}, {127, 0}, {-1, 0}, {0, 0}, {10, 0}, {128, 0}, {340, 0}, {2147483647, 0}, {-2147483648, 0}, {32, 1}, {126, 1}};
        for (int[] v : told) {
            t.due(v[1], 604, v[0]);
        }
        t.due(-2, 605);
        t.write(604, "T1");
        t.due(0, 604, 31);
        t.due(0, 604, 127);
        t.due(1, 604, ';');
        t.due(1, 605);
        t.due(-1, 605);
        looks(t);
    }

    // "A TEXT, at most 240 characters"
    private static void room() {
        Twins t = new Twins();
        String text = "G1 X10 Y10 Z50 ;".repeat(14) + "T0; G0 Z 99 ; T1";
        t.write(604, text.substring(0, 224) + "T0; T1; G0 Z100;");
        t.due(0, 604, ';');
        t.due(0, 604, ' ');
        t.due(17, 605);
        t.write(604, "T2;");
        t.due(1, 605);
        Twins s = new Twins();
        s.write(604, " ".repeat(239));
        s.due(1, 604, 'T');
        s.due(0, 604, '1');
        s.due(-1 - 240, 605);
        looks(t);
    }

    // "A statement is T and a digit 0 .. 3 (the tool changes), or G and 0 or 1"; "the first character that can't be there"
    private static void letters() {
        Twins t = new Twins();
        t.read(604, "T0;", 1);
        t.read(604, "T3;", 1);
        t.read(604, "T4;", -2);
        t.read(604, "T/;", -2);
        t.read(604, "T;", -2);
        t.read(604, "TT;", -2);
        t.read(604, "T01;", -3);
        t.read(604, "T1X1;", -3);
        t.read(604, "t1;", -1);
        t.read(604, "S1;", -1);
        t.read(604, "U1;", -1);
        t.read(604, "F1X1;", -1);
        t.read(604, "H1X1;", -1);
        t.read(604, "X1;", -1);
        t.read(604, ";", -1);
        t.read(604, "1;", -1);
        t.read(604, "G0X1;", 1);
        t.read(604, "G1X1;", 1);
        t.read(604, "G2X1;", -2);
        t.read(604, "G/X1;", -2);
        t.read(604, "GX1;", -2);
        t.read(604, "G00X1;", -3);
        t.read(604, "G0;", -3);
        t.read(604, "G0W1;", -3);
        t.read(604, "G0[1;", -3);
        t.read(604, "G0x1;", -3);
        t.read(604, "T1;T4;", -5);
        t.read(604, "T1;;", -4);
        t.read(604, "T1,T2;", -3);
        looks(t);
    }

    // "with a NUMBER of one to three digits"
    private static void digits() {
        Twins t = new Twins();
        t.read(604, "G0X;", -4);
        t.read(604, "G0X-1;", -4);
        t.read(604, "G0X/;", -4);
        t.read(604, "G0X:;", -4);
        t.read(604, "G0XY1;", -4);
        t.read(604, "G0X0;", 1);
        t.read(604, "G0X00;", 1);
        t.read(604, "G0X000;", 1);
        t.read(604, "G0X0000;", -7);
        t.read(604, "G0X0011;", -7);
        t.read(604, "G0X019;", 1);
        t.read(604, "G0X1a;", -5);
        t.read(604, "G0X1 1;", -6);
        t.read(604, "G0X1.;", -5);
        looks(t);
    }

    // "(X and Y below SIDE, Z at most 100)"; "of a NUMBER that is too great (by its first three digits) its first digit"
    private static void numbers() {
        Twins t = new Twins();
        t.read(604, "G0X19Y19Z100;", 1);
        t.read(604, "G0X20;", -4);
        t.read(604, "G0X20", -4);
        t.read(604, "G0X020;", -4);
        t.read(604, "G0X200;", -4);
        t.read(604, "G0X2000;", -4);
        t.read(604, "G0X0200;", -4);
        t.read(604, "G0X20x", -4);
        t.read(604, "G0X999;", -4);
        t.read(604, "G0X1Y20;", -6);
        t.read(604, "G0Y99;", -4);
        t.read(604, "G0Z101;", -4);
        t.read(604, "G0Z101x", -4);
        t.read(604, "G0Z999;", -4);
        t.read(604, "G0Z1000;", -7);
        t.read(604, "G0Z1010;", -4);
        t.read(604, "G0Z099;", 1);
        t.read(604, "G0X1Y1Z101;", -8);
        t.read(604, "G0X20Y20;", -4);
        t.state(607, 0);
        looks(t);
    }

    private static void numbersBySide() {
        for (int side = 2; side <= 20; side++) {
            Twins t = made(side);
            t.read(604, "G0X" + (side - 1) + ";", 1);
            t.read(604, "G0Y" + (side - 1) + ";", 1);
            t.read(604, "G0Z100;", 1);
            t.read(604, "G0X" + side + ";", -4);
            t.read(604, "G0Y" + side + ";", -4);
            t.read(604, "G0Z" + side + ";", 1);
        }
    }

    // "and, in this order, each at most once, X, Y, Z ..; at least one of these"
    private static void order() {
        Twins t = new Twins();
        String[] right = {"G0X1;", "G0Y1;", "G0Z1;", "G0X1Y1;", "G0X1Z1;", "G0Y1Z1;", "G0X1Y1Z1;"};
        for (String text : right) {
            t.read(604, text, 1);
        }
        String[] wrong = {"G0X1X1;", "G0Y1X1;", "G0Z1X1;", "G0Y1Y1;", "G0Z1Y1;", "G0Z1Z1;"};
        for (String text : wrong) {
            t.read(604, text, -5);
        }
        t.read(604, "G0X1Y1X1;", -7);
        t.read(604, "G0X1Y1Z1X1;", -9);
        t.read(604, "G0X1Z1Y1;", -7);
        t.read(604, "G0X1T1;", -5);
        t.read(604, "G0X1G0;", -5);
        looks(t);
    }

    // "Spaces (32) may stand before each letter and each ;, nowhere else."; "spaces behind the last ; of fewer: the text's
    // end"
    private static void spaces() {
        Twins t = new Twins();
        t.read(604, "  G0  X1  Y2  Z3  ;  T1  ;", 2);
        t.read(604, "G0 X1 ;", 1);
        t.read(604, "T 1;", -2);
        t.read(604, "G 0X1;", -2);
        t.read(604, "G0X 1;", -4);
        t.read(604, "G0X1 0;", -6);
        t.read(604, "G0 1;", -4);
        t.read(604, "G0 ;", -4);
        t.read(604, "T1  2;", -5);
        t.read(604, "T1; ", -5);
        t.read(604, "T1;   ", -7);
        t.read(604, "   ", -4);
        t.read(604, "T1 ; ;", -6);
        looks(t);
    }

    // "1 to 32 STATEMENTS, each behind it a ; (59)"; "whatever stands behind the 32nd statement (a space, too), at its place"
    private static void statementsFull() {
        String full = "T0;".repeat(31);
        Twins t = new Twins();
        t.read(604, full, 31);
        t.due(0, 606);
        t.due(31, 607, 1);
        t.read(604, full + " ", -1 - 94);
        Twins s = new Twins();
        s.read(604, full + "T1;", 32);
        s.due(0, 606);
        s.due(32, 607, 1);
        s.due(320, 607, 0);
        s.read(604, full + "T1; ", -1 - 96);
        Twins r = new Twins();
        r.read(604, full + "T1;T2;", -1 - 96);
        r.read(604, full + "T1;x", -1 - 96);
        Twins q = new Twins();
        q.read(604, full + "T1", -1 - 95);
        q.read(604, full + "T1;;", -1 - 96);
        q.state(606);
        looks(s);
    }

    // "or the text's end"
    private static void endsOfText() {
        String text = " G0 X1 Y12 Z100 ; T3 ;";
        for (int length = 0; length <= text.length(); length++) {
            Twins t = new Twins();
            t.read(604, text.substring(0, length), length == 17 ? 1 : length == 22 ? 2 : -1 - length);
            if (length != 17 && length != 22) {
                t.state(606);
            }
        }
    }

    // "READING sets the PROGRAM; behind a FAULT the one before stays."
    private static void programStays() {
        Twins t = new Twins();
        run(t, "G0X3;G0Y4;", 2, 0);
        t.read(604, "G0X5;G0Y20;", -9);
        t.due(0, 606);
        t.due(2, 607, 1);
        t.due(3, 607, 2);
        t.due(4, 607, 3);
        t.read(604, "", -1);
        t.due(0, 606);
        t.due(3, 607, 2);
        run(t, "G0Z50;", 1, 1);
        t.due(0, 607, 1);
        t.due(0, 607, 2);
        run(t, "G0Z100;", 1, 0);
        t.due(1, 607, 1);
        looks(t);
    }

    // "IllegalStateException: no PROGRAM was read yet."
    private static void runsAsked() {
        Twins t = new Twins();
        t.state(606);
        t.read(604, "G0", -3);
        t.state(606);
        t.state(607, 0);
        t.read(604, "T1;", 1);
        t.state(607, 0);
        t.due(0, 606);
        t.due(10, 607, 0);
        looks(t);
    }

    // "IndexOutOfBoundsException; IllegalStateException: there was no RUN."
    private static void aboutAsked() {
        Twins t = new Twins();
        t.thing(607, -1);
        t.thing(607, 6);
        t.state(607, 0);
        t.state(607, 5);
        run(t, "G0X2Y3;G1Z97;", 2, 0);
        int[] want = {3 + 3, 2, 2, 3, 97, 3};
        for (int what = 0; what < 6; what++) {
            t.due(want[what], 607, what);
        }
        t.thing(607, -1);
        t.thing(607, 6);
        looks(t);
    }

    // "the machine begins at x 0, y 0, z 100 with tool 0"; "(what is not told stays)"; "n = the greatest size of the three
    // differences"
    private static void steps() {
        Twins t = new Twins();
        run(t, "G0X5;", 1, 0);
        t.due(5, 607, 0);
        run(t, "G0Y7;", 1, 0);
        t.due(7, 607, 0);
        t.due(0, 607, 2);
        run(t, "G0X5Y7;G0X2;G0Y19;", 3, 0);
        t.due(7 + 3 + 12, 607, 0);
        t.due(2, 607, 2);
        t.due(19, 607, 3);
        t.due(100, 607, 4);
        run(t, "G1Z0;", 1, 0);
        t.due(100, 607, 0);
        t.due(100, 607, 5);
        t.due(0, 608, 0, 0, 0);
        run(t, "G1X19Y3Z50;", 1, 0);
        t.due(50, 607, 0);
        t.due(50, 608, 19, 3, 0);
        looks(t);
    }

    // A statement that goes nowhere takes no step.
    private static void noSteps() {
        Twins t = new Twins();
        run(t, "G0X0;G1X0Y0Z100;G0Z100;", 3, 0);
        t.due(0, 607, 0);
        t.due(3, 607, 1);
        t.due(0, 607, 5);
        // So it neither crashes nor cuts.
        run(t, "G1Z50;G0Z50;G1Z50;", 3, 0);
        t.due(50, 607, 0);
        t.due(50, 607, 5);
        looks(t);
    }

    // "at steps i = 1 .. n it is at each place a + FLOOR((2 * d * i + n) / (2 * n))"
    private static void halves() {
        int[][] told = {{0, 1}, {1, 0}, {0, 3}, {3, 0}, {0, 2}, {5, 2}, {2, 5}, {0, 19}, {19, 0}, {7, 7}};
        for (int[] v : told) {
            for (int n = Math.max(2, Math.abs(v[1] - v[0])); n < 30; n += 5) {
                Twins t = new Twins();
                run(t, "G0X" + v[0] + ";G1X" + v[1] + "Y2Z" + (100 - n) + ";", 2, 0);
                int[][] height = new int[20][3];
                for (int i = 1; i <= n; i++) {
                    int x = v[0] + Math.floorDiv(2 * (v[1] - v[0]) * i + n, 2 * n);
                    height[x][Math.floorDiv(2 * 2 * i + n, 2 * n)] = 100 - i;
                }
                for (int x = 0; x < 20; x++) {
                    for (int y = 0; y < 3; y++) {
                        t.due(height[x][y] == 0 ? 100 : height[x][y], 608, x, y, 0);
                    }
                }
            }
        }
        // A half goes up by FLOOR: from 1 to 0 by two steps it stays at 1 first.
        Twins t = new Twins();
        run(t, "G0X1;G1X0Z98;", 2, 0);
        t.due(99, 608, 1, 0, 0);
        t.due(98, 608, 0, 0, 0);
        Twins s = new Twins();
        run(s, "G1X1Z98;", 1, 0);
        s.due(98, 608, 1, 0, 0);
        s.due(100, 608, 0, 0, 0);
        looks(t);
    }

    // "by G0 nothing is cut: if one of them is above z it is a CRASH"; "both end RUN at once (.. the step itself cuts nothing
    // and takes no time)"; "of a CRASH or BREACH that step's"
    private static void crashes() {
        Twins t = new Twins();
        run(t, "G0X3;G0Z99;G0X9;", 3, 1);
        int[] want = {3, 1, 3, 0, 99, 0};
        for (int what = 0; what < 6; what++) {
            t.due(want[what], 607, what);
        }
        run(t, "G1X1Z99;G0X0;", 2, 1);
        t.due(1, 607, 1);
        t.due(0, 607, 2);
        // As high as z is no CRASH.
        Twins s = new Twins();
        run(s, "G1Z99;G1X2;G0X0;", 3, 0);
        s.due(3, 607, 1);
        run(s, "G1Z99;G1X2;G0X3;", 3, 1);
        s.due(2, 607, 1);
        s.due(3, 607, 2);
        s.due(0, 607, 5);
        // By its whole DISC.
        Twins r = new Twins();
        r.due(0, 603, 1, 1, 1);
        run(r, "G1Z99;T1;G0Z98;", 3, 1);
        r.due(11, 607, 0);
        r.due(2, 607, 1);
        looks(t);
    }

    // "If a cell that would be cut is KEPT it is a BREACH; .. (what was cut stays, the step itself cuts nothing and takes no
    // time)."
    private static void breaches() {
        Twins t = made(9);
        t.due(0, 602, 4, 0, 4, 0, 1);
        t.due(0, 603, 0, 1, 7);
        run(t, "G1Z98;G1X8;", 2, 2);
        int[] want = {2 * 7 + 2 * 7, 1, 3, 0, 98, 2 * 3 + 1 + 1 + 1 + 1};
        for (int what = 0; what < 6; what++) {
            t.due(want[what], 607, what);
        }
        t.due(98, 608, 3, 0, 0);
        t.due(100, 608, 4, 0, 0);
        t.due(100, 608, 3, 1, 0);
        // A KEPT cell that is not above z is cut by none.
        run(t, "G1X8;", 1, 0);
        t.due(56, 607, 0);
        t.due(0, 607, 5);
        Twins s = made(9);
        s.due(0, 602, 0, 0, 0, 0, 1);
        run(s, "G1Z99;", 1, 2);
        s.due(0, 607, 0);
        s.due(99, 607, 4);
        s.due(0, 607, 5);
        s.due(100, 608, 0, 0, 0);
        // KEPT binds no G0.
        run(s, "G0X8Y8;", 1, 0);
        run(s, "G0Z99;", 1, 1);
        looks(t);
    }

    // "TIME is 1 for each step of G0, FEED for each of G1, 10 for each T."
    private static void times() {
        Twins t = new Twins();
        t.due(0, 603, 0, 0, 3);
        t.due(0, 603, 2, 0, 10);
        run(t, "T0;", 1, 0);
        t.due(10, 607, 0);
        run(t, "G0X4;", 1, 0);
        t.due(4, 607, 0);
        run(t, "G1X4;", 1, 0);
        t.due(12, 607, 0);
        run(t, "T2;G1X4;T2;T1;G1X0;", 5, 0);
        t.due(10 + 40 + 10 + 10 + 4, 607, 0);
        // Each RUN begins with tool 0 again.
        run(t, "G1X1;", 1, 0);
        t.due(3, 607, 0);
        looks(t);
    }

    // "THE DISC of a tool at x, y is all cells on the grid with dx * dx + dy * dy <= r * r."
    private static void discs() {
        for (int r = 0; r <= 6; r++) {
            for (int[] at : new int[][] {{10, 10}, {0, 0}, {19, 19}, {19, 3}, {6, 0}}) {
                Twins t = new Twins();
                t.due(0, 603, 0, r, 1);
                run(t, "G0X" + at[0] + "Y" + at[1] + ";G1Z99;", 2, 0);
                t.due(cellsOfDisc(at[0], at[1], r), 607, 5);
                t.due(cellsOfDisc(at[0], at[1], r), 609, 1);
                if (at[0] + r < 20) {
                    t.due(99, 608, at[0] + r, at[1], 0);
                }
                if (at[0] + r + 1 < 20) {
                    t.due(100, 608, at[0] + r + 1, at[1], 0);
                }
            }
        }
    }

    // "A cell's HEIGHT (what = 0), TARGET (1), 1 if it is KEPT (2). IndexOutOfBoundsException."
    private static void cells() {
        Twins t = made(3);
        t.thing(608, -1, 0, 0);
        t.thing(608, 3, 0, 0);
        t.thing(608, 0, -1, 0);
        t.thing(608, 0, 3, 0);
        t.thing(608, 0, 0, -1);
        t.thing(608, 0, 0, 3);
        t.due(0, 601, 2, 2, 2, 2, 7);
        t.due(0, 602, 2, 2, 2, 2, 1);
        run(t, "G0X2Y2;G1Z90;", 2, 2);
        t.due(100, 608, 2, 2, 0);
        t.due(7, 608, 2, 2, 1);
        t.due(1, 608, 2, 2, 2);
        looks(t);
    }

    // "How many cells are LEFT (what = 0), DEEP (1); the first LEFT one, by y, then x, as SIDE * y + x (2; NONE), the first
    // DEEP one (3). IndexOutOfBoundsException."; "LEFT are cells whose HEIGHT is above TARGET, DEEP those below."
    private static void checks() {
        Twins t = made(5);
        t.thing(609, -1);
        t.thing(609, 4);
        t.due(-1, 609, 2);
        t.due(-1, 609, 3);
        t.due(0, 601, 4, 1, 4, 1, 99);
        t.due(0, 601, 0, 2, 0, 2, 0);
        t.due(2, 609, 0);
        t.due(5 + 4, 609, 2);
        t.due(0, 609, 1);
        run(t, "G0X4Y1;G1Z99;", 2, 0);
        t.due(1, 609, 0);
        t.due(10, 609, 2);
        t.due(0, 609, 1);
        run(t, "G0X4Y1;G1Z98;G1X3;", 3, 0);
        t.due(2, 609, 1);
        t.due(8, 609, 3);
        t.due(1, 609, 0);
        looks(t);
    }

    // "a cell that is LEFT, if there is a place x, y on the grid whose DISC has it, and no cell with a TARGET above the
    // cell's TARGET"; "How many cells are REACHED by a tool. IndexOutOfBoundsException."
    private static void reached() {
        Twins t = made(9);
        t.thing(610, -1);
        t.thing(610, 4);
        t.due(0, 603, 1, 1, 1);
        t.due(0, 603, 2, 2, 1);
        t.due(0, 603, 3, 6, 1);
        t.due(0, 601, 3, 3, 5, 5, 50);
        t.due(9, 610, 0);
        t.due(5, 610, 1);
        t.due(0, 610, 2);
        t.due(0, 610, 3);
        // A pit within it is deeper: its own cell is reached by a point alone, those around as before.
        t.due(0, 601, 4, 4, 4, 4, 49);
        t.due(9, 610, 0);
        t.due(4, 610, 1);
        t.due(0, 601, 4, 4, 4, 4, 50);
        // At the grid's edge the DISC has but cells on it.
        t.due(0, 601, 0, 0, 0, 8, 10);
        t.due(18, 610, 0);
        t.due(5, 610, 1);
        t.due(0, 601, 0, 0, 1, 8, 10);
        t.due(5 + 18, 610, 1);
        // What is not LEFT is not REACHED.
        run(t, "G1Z10;", 1, 0);
        t.due(5 + 17, 610, 1);
        run(t, "G1X1Z11;", 1, 0);
        t.due(5 + 17, 610, 1);
        looks(t);
    }

    // "and none that is KEPT"
    private static void reachedKept() {
        Twins t = made(5);
        t.due(0, 603, 1, 1, 1);
        t.due(0, 601, 0, 0, 4, 4, 0);
        t.due(25, 610, 0);
        t.due(25, 610, 1);
        t.due(0, 602, 2, 2, 2, 2, 1);
        t.due(24, 610, 0);
        t.due(24, 610, 1);
        t.due(0, 602, 2, 0, 2, 4, 1);
        t.due(20, 610, 0);
        t.due(20, 610, 1);
        t.due(0, 602, 1, 0, 3, 4, 1);
        t.due(10, 610, 0);
        t.due(0, 610, 1);
        t.due(0, 602, 0, 0, 4, 4, 1);
        t.due(0, 610, 0);
        looks(t);
    }

    // "PIECES are sets of cells with a HEIGHT above 0 that hang together by sides."
    private static void pieces() {
        Twins t = made(4);
        t.due(1, 611);
        run(t, "G0X1;G1Z1;G1Y3;", 3, 0);
        t.due(1, 611);
        run(t, "G0X1;G1Z0;G1Y3;", 3, 0);
        t.due(2, 611);
        run(t, "G0Y1;G1Z0;G1X3;", 3, 0);
        t.due(4, 611);
        // By corners nothing hangs together.
        run(t, "G0X3Y3;G1Z0;G1Y0;G1X0;G1Y3;G1X3;", 6, 0);
        t.due(1, 611);
        shapes();
        Twins s = made(2);
        run(s, "G1Z0;", 1, 0);
        s.due(1, 611);
        run(s, "G0X1Y1;G1Z0;", 2, 0);
        s.due(2, 611);
        run(s, "G1Z0;G1X1;G1Y1;G1X0;G1Y0;", 5, 0);
        s.due(0, 611);
        s.due(4, 609, 1);
        looks(t);
    }

    /** Walls of one cell that turn to all sides, all else cut to the ground: x is a wall. */
    private static void shapes() {
        String[][] told = {
            {"x....", "x.x..", "xxx..", ".....", "....."}, {"..x..", "x.x..", "xxx..", ".....", "....."},
            {"xxx..", "x.x..", "x....", ".....", "....."}, {"xxx..", "x.x..", "..x..", ".....", "....."},
            {"xxx..", "x....", "xx...", ".....", "....."}, {"xxx..", "..x..", ".xx..", ".....", "....."},
            {"xxxxx", "....x", "xxx.x", "x...x", "xxxxx"}, {"xxxxx", "x...x", "x.xxx", "x....", "xxxxx"},
            {"x.x.x", ".x.x.", "x.x.x", ".x.x.", "x.x.x"}, {"xxxxx", "x...x", "x.x.x", "x...x", "xxxxx"},
            {"x...x", "x...x", ".....", "x...x", "x...x"}, {".....", ".....", ".....", ".....", "....x"}};
        int[] want = {1, 1, 1, 1, 1, 1, 1, 1, 13, 2, 4, 1};
        for (int i = 0; i < told.length; i++) {
            Twins t = made(5);
            for (int y = 0; y < 5; y++) {
                StringBuilder text = new StringBuilder();
                int count = 0;
                for (int x = 0; x < 5; x++) {
                    if (told[i][y].charAt(x) == '.') {
                        text.append("G0X").append(x).append("Y").append(y).append(";G1Z0;G0Z100;");
                        count += 3;
                    }
                }
                if (count > 0) {
                    run(t, text.toString(), count, 0);
                }
            }
            t.due(want[i], 611);
        }
    }

    // "All HEIGHTS are 100 again."
    private static void blank() {
        Twins t = made(4);
        t.due(0, 601, 3, 3, 3, 3, 60);
        t.due(0, 602, 2, 2, 2, 2, 1);
        run(t, "G1Z50;", 1, 0);
        t.due(0, 612);
        t.due(100, 608, 0, 0, 0);
        t.due(60, 608, 3, 3, 1);
        t.due(1, 608, 2, 2, 2);
        t.due(50, 607, 0);
        t.due(0, 606);
        t.due(50, 608, 0, 0, 0);
        looks(t);
    }

    // "(heights stay as they are)"
    private static void heightsStay() {
        Twins t = made(4);
        run(t, "G1Z50;", 1, 0);
        run(t, "G0X1;G1Z60;", 2, 0);
        t.due(50, 608, 0, 0, 0);
        t.due(60, 608, 1, 0, 0);
        t.due(40, 607, 5);
        t.due(0, 606);
        t.due(0, 607, 5);
        looks(t);
    }
}
