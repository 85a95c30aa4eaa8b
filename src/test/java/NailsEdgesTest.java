/** NAILS: each sentence that names a boundary, its last value that is allowed and its first that is not. */
public final class NailsEdgesTest {
    private static final String[] WORDS = {"size", "force", "edge", "end", "side", "row", "thin"};

    public static void main(String[] args) {
        atFirst();
        fourTimes();
        forgotten();
        units();
        room();
        statements();
        words();
        numbers();
        zeros();
        sixteen();
        endsOfText();
        nothingSet();
        rules();
        sets();
        holdsAsked();
        holdsLeast();
        holdsCutOff();
        togetherAsked();
        togetherHalf();
        counts();
        patternsAsked();
        patternSizes();
        patternPlaces();
        patternStays();
        places();
        keepsAsked();
        keepsSides();
        keepsPairs();
        members();
        inMembers();
        inExactly();
        teethAsked();
        teethSteps();
        thick();
        holes();
        Check.end();
    }

    private static void looks(Twins t) {
        for (int kind = 0; kind < 4; kind++) {
            for (int what = 0; what < 7; what++) {
                t.same(403, kind, what);
            }
            t.same(412, kind, 500, 500);
        }
        t.same(405, 0, 500, 500, 45, 0);
        t.same(406, 9, 1000);
        for (int k = 0; k < 3; k++) {
            t.same(409, k, 0);
            t.same(409, k, 1);
            t.same(414, k, 5, 5);
        }
    }

    private static Twins told(String text) {
        Twins t = new Twins();
        t.read(401, text, text.split(";").length);
        return t;
    }

    // "(1 at first)", "(percent, 100 at first)", "(LESS 2 at first)"
    private static void atFirst() {
        Twins t = new Twins();
        for (int kind = 0; kind < 4; kind++) {
            for (int what = 0; what < 7; what++) {
                t.due(1, 403, kind, what);
            }
        }
        t.due(4, 405, 0, 9, 9, 0, 0);
        t.due(98 * 2, 406, 2, 100);
        t.state(409, 0, 0);
        t.due(0, 412, 0, 1, 1);
        t.thing(414, 0, 0, 0);
        t.due(-1, 402);
        looks(t);
    }

    // "1; 0, and nothing, if it was made ANEW 4 times."
    private static void fourTimes() {
        Twins t = new Twins();
        for (int i = 0; i < 4; i++) {
            t.due(1, 400);
        }
        t.read(401, "s row 9", 1);
        t.due(1, 410, 3, 3);
        t.due(0, 404, 0, 50);
        t.due(0, 413, 0, 0, 9, 9, 3);
        t.write(401, "s row 8");
        t.due(0, 400);
        t.due(1, 402);
        t.due(8, 403, 1, 5);
        t.due(2, 410, 4, 4);
        t.due(2, 405, 0, 9, 9, 0, 0);
        looks(t);
    }

    // "all that was told it is forgotten"
    private static void forgotten() {
        Twins t = told("n size 20;d thin 5");
        t.due(0, 404, 0, 50);
        t.due(0, 404, 1, 50);
        t.due(1, 408, 1, 9, 9, 2);
        t.due(1, 410, 3, 3);
        t.due(0, 413, 0, 0, 9, 9, 3);
        t.write(401, "n size 7");
        t.due(1, 400);
        t.due(-1, 402);
        for (int kind = 0; kind < 4; kind++) {
            for (int what = 0; what < 7; what++) {
                t.due(1, 403, kind, what);
            }
        }
        t.due(4, 405, 0, 9, 9, 0, 0);
        t.due(98 * 2, 406, 2, 100);
        t.state(409, 0, 0);
        t.due(0, 412, 0, 1, 1);
        t.thing(414, 0, 0, 0);
        t.due(1, 410, 3, 3);
        t.due(0, 413, 0, 0, 9, 9, 3);
        looks(t);
    }

    // "A character more behind the text: whether there was room, and it is 32 .. 126."
    private static void units() {
        Twins t = new Twins();
        int[][] told = {{31, 0}, {127, 0}, {-1, 0}, {0, 0}, {10, 0}, {128, 0}, {2147483647, 0}, {-2147483648, 0}, {366, 0}, {32, 1}, {126, 1}};
        for (int[] v : told) {
            t.due(v[1], 401, v[0]);
        }
        t.due(-1, 402);
        // What was refused is not in the text.
        t.write(401, "n");
        t.due(0, 401, 31);
        t.due(0, 401, 127);
        t.write(401, " end 5");
        t.due(1, 402);
        t.due(5, 403, 0, 3);
        looks(t);
    }

    // "A TEXT, at most 200 characters"; "The text (which is empty then) is read"
    private static void room() {
        Twins t = new Twins();
        // Fourteen statements of 13 signs with ; and one of 18: just 200 signs.
        StringBuilder text = new StringBuilder();
        for (int i = 0; i < 14; i++) {
            text.append("n force 1000;");
        }
        text.append("b size 1;d row 777");
        t.write(401, text.toString());
        t.due(0, 401, '7');
        t.due(0, 401, ';');
        t.due(0, 401, ' ');
        t.due(16, 402);
        t.due(777, 403, 3, 5);
        t.due(-1, 402);
        t.write(401, "n end 5");
        t.due(1, 402);
        t.due(-1, 402);
        t.write(401, "x");
        t.due(-1, 402);
        t.write(401, "n end 6");
        t.due(1, 402);
        t.due(6, 403, 0, 3);
        Twins s = new Twins();
        s.write(401, " ".repeat(199));
        s.due(1, 401, 'n');
        s.due(0, 401, 'n');
        s.due(-1, 402);
        looks(t);
    }

    // "KINDS n (110), s (115), b (98), d (100) are 0 .. 3."; "each a KIND, a space (32), and a WORD: .. then a space and a
    // NUMBER"; "the first character that can't be there"
    private static void statements() {
        Twins t = new Twins();
        for (int kind = 0; kind < 4; kind++) {
            for (int what = 0; what < 7; what++) {
                t.read(401, "nsbd".charAt(kind) + " " + WORDS[what] + " " + (10 * kind + what + 2), 1);
            }
        }
        for (int kind = 0; kind < 4; kind++) {
            for (int what = 0; what < 7; what++) {
                t.due(10 * kind + what + 2, 403, kind, what);
            }
        }
        Twins s = new Twins();
        s.read(401, "", -1);
        s.read(401, " n end 5", -1);
        s.read(401, "m end 5", -1);
        s.read(401, "o end 5", -1);
        s.read(401, "N end 5", -1);
        s.read(401, ";", -1);
        s.read(401, "nn end 5", -2);
        s.read(401, "n;", -2);
        s.read(401, "n  end 5", -3);
        s.read(401, "n end  5", -7);
        s.read(401, "n end;5", -6);
        s.read(401, "n end 5 ", -8);
        s.read(401, "n end 5 ;s row 3", -8);
        s.read(401, "n end 5; s row 3", -9);
        s.read(401, "n end 5;;s row 3", -9);
        s.read(401, "n end 5,s row 3", -8);
        s.read(401, "n end 5;x row 3", -9);
        s.read(401, "n end 5;s row 3;b rox 3", -21);
        s.due(1, 403, 0, 3);
        s.due(1, 403, 1, 5);
        looks(s);
    }

    private static void words() {
        Twins t = new Twins();
        t.read(401, "n x", -3);
        t.read(401, "n s 1", -4);
        t.read(401, "n sx", -4);
        t.read(401, "n si 1", -5);
        t.read(401, "n six", -5);
        t.read(401, "n siz 1", -6);
        t.read(401, "n sid 1", -6);
        t.read(401, "n sizf 1", -6);
        t.read(401, "n sizes 1", -7);
        t.read(401, "n sidee 1", -7);
        t.read(401, "n e 1", -4);
        t.read(401, "n ed 1", -5);
        t.read(401, "n edx", -5);
        t.read(401, "n en 1", -5);
        t.read(401, "n enx", -5);
        t.read(401, "n edg 1", -6);
        t.read(401, "n ends 1", -6);
        t.read(401, "n edges 1", -7);
        t.read(401, "n f 1", -4);
        t.read(401, "n fo 1", -5);
        t.read(401, "n forcf 1", -7);
        t.read(401, "n r 1", -4);
        t.read(401, "n rows 1", -6);
        t.read(401, "n thim 1", -6);
        t.read(401, "n thinn 1", -7);
        t.read(401, "n Size 1", -3);
        t.read(401, "n 1", -3);
        t.read(401, "n ;", -3);
        looks(t);
    }

    // "a NUMBER of one to four digits, 1 at least"; "(.. else a fifth digit can't be there)"
    private static void numbers() {
        int[][] told = {{1, 1}, {9, 1}, {10, 1}, {99, 1}, {100, 1}, {999, 1}, {1000, 1}, {9999, 1}, {10000, -11}, {99999, -11}, {123456, -11}};
        for (int[] v : told) {
            Twins t = new Twins();
            t.read(401, "d row " + v[0], v[1]);
            t.due(v[1] > 0 ? v[0] : 1, 403, 3, 5);
        }
        Twins t = new Twins();
        t.read(401, "d row 0001", 1);
        t.due(1, 403, 3, 5);
        t.read(401, "d row 0012", 1);
        t.due(12, 403, 3, 5);
        t.read(401, "d row 00010", -11);
        t.read(401, "d row 10000", -11);
        t.read(401, "d row 12x", -9);
        t.read(401, "d row 1234x", -11);
        t.read(401, "d row x", -7);
        t.read(401, "d row -1", -7);
        t.read(401, "d row ;", -7);
        t.read(401, "d row /", -7);
        t.read(401, "d row :", -7);
        t.due(12, 403, 3, 5);
        looks(t);
    }

    // "of a NUMBER that is 0 by its first four digits its first character (whatever stands behind; ..)"
    private static void zeros() {
        Twins t = new Twins();
        t.read(401, "d row 0", -7);
        t.read(401, "d row 00", -7);
        t.read(401, "d row 0000", -7);
        t.read(401, "d row 00000", -7);
        t.read(401, "d row 00001", -7);
        t.read(401, "d row 0x", -7);
        t.read(401, "d row 0 ", -7);
        t.read(401, "d row 0;", -7);
        t.read(401, "d row 0;d row 5", -7);
        t.read(401, "d row 5;d row 0", -15);
        t.due(1, 403, 3, 5);
        looks(t);
    }

    // "has 1 to 16 STATEMENTS with ; (59) between them"
    private static void sixteen() {
        String fifteen = "n row 2" + ";n row 2".repeat(14);
        Twins t = new Twins();
        t.read(401, fifteen + ";n end 7", 16);
        t.due(7, 403, 0, 3);
        Twins s = new Twins();
        s.read(401, fifteen + ";n end 7;", -1 - 127);
        Twins r = new Twins();
        r.read(401, fifteen + ";n end 7;n end 8", -1 - 127);
        Twins q = new Twins();
        q.read(401, fifteen + ";n end 7x", -1 - 127);
        Twins p = new Twins();
        p.read(401, fifteen + ";", -1 - 120);
        Twins o = new Twins();
        o.read(401, fifteen, 15);
        o.due(2, 403, 0, 5);
        for (Twins each : new Twins[] {s, r, q, p}) {
            each.due(1, 403, 0, 3);
            each.due(1, 403, 0, 5);
        }
        looks(t);
    }

    // "or the text's end, if more must come"
    private static void endsOfText() {
        String text = "n side 5;s thin 12";
        for (int length = 0; length <= text.length(); length++) {
            boolean whole = length == 8 || length >= 17;
            Twins t = new Twins();
            t.read(401, text.substring(0, length), whole ? length == 8 ? 1 : 2 : -1 - length);
            t.due(whole ? 5 : 1, 403, 0, 4);
            t.due(length == 17 ? 1 : length == 18 ? 12 : 1, 403, 1, 6);
        }
    }

    // "Behind a FAULT nothing is set."; "A statement sets what its WORD says of its KIND; read from the first one on."
    private static void nothingSet() {
        Twins t = new Twins();
        t.read(401, "n size 7;n size 8;s size 9", 3);
        t.due(8, 403, 0, 0);
        t.due(9, 403, 1, 0);
        t.due(1, 403, 2, 0);
        t.read(401, "n size 5;s size 6;s size 0", -26);
        t.due(8, 403, 0, 0);
        t.due(9, 403, 1, 0);
        t.read(401, "n size 5;", -10);
        t.due(8, 403, 0, 0);
        looks(t);
    }

    // "IndexOutOfBoundsException: also of what."
    private static void rules() {
        Twins t = new Twins();
        t.thing(403, -1, 0);
        t.thing(403, 4, 0);
        t.thing(403, 0, -1);
        t.thing(403, 0, 7);
        t.thing(403, 2147483647, -2147483648);
        t.due(1, 403, 3, 6);
        looks(t);
    }

    // "IndexOutOfBoundsException; IllegalArgumentException: WET is not 1 .. 100, or LESS not 0 .. 100."
    private static void sets() {
        Twins t = told("n size 10;n force 100");
        t.thing(404, -1, 50);
        t.thing(404, 2, 50);
        t.thing(404, 2, 101);
        t.number(404, 0, 0);
        t.number(404, 0, 101);
        t.number(404, 0, -1);
        t.number(404, 1, -1);
        t.number(404, 1, 101);
        t.due(1000, 405, 0, 1, 1, 0, 0);
        t.due(0, 404, 0, 1);
        t.due(10, 405, 0, 1, 1, 0, 0);
        t.due(0, 404, 0, 100);
        t.due(1000, 405, 0, 1, 1, 0, 0);
        t.due(0, 404, 1, 0);
        t.due(1000 * 50, 406, 1000, 50);
        t.due(0, 404, 1, 100);
        t.due(50, 406, 1, 50);
        t.due(50, 406, 2, 50);
        t.number(404, 0, 0);
        t.number(404, 1, 101);
        looks(t);
    }

    // "IndexOutOfBoundsException: no such kind, part; IllegalArgumentException: a or b is not 1 .. 1000, or angle not
    // 0 .. 90."
    private static void holdsAsked() {
        Twins t = new Twins();
        t.thing(405, -1, 5, 5, 0, 0);
        t.thing(405, 4, 5, 5, 0, 0);
        t.thing(405, 0, 5, 5, 0, -1);
        t.thing(405, 0, 5, 5, 0, 2);
        t.thing(405, 4, 0, 0, 91, 2);
        t.number(405, 0, 0, 5, 0, 0);
        t.number(405, 0, 1001, 5, 0, 0);
        t.number(405, 0, 5, 0, 0, 0);
        t.number(405, 0, 5, 1001, 0, 0);
        t.number(405, 0, 5, 5, -1, 0);
        t.number(405, 0, 5, 5, 91, 1);
        t.due(1, 405, 3, 1, 1000, 0, 0);
        t.due(1, 405, 3, 1000, 1, 0, 0);
        t.due(0, 405, 3, 1, 1000, 0, 1);
        t.due(1, 405, 3, 1000, 1, 0, 1);
        t.due(4, 405, 3, 1000, 1000, 0, 0);
        t.due(3, 405, 3, 1000, 1000, 90, 1);
        t.due(2, 405, 3, 1000, 1000, 90, 0);
        looks(t);
    }

    // "the least (the first of several)"
    private static void holdsLeast() {
        Twins t = new Twins();
        int[][] told = {{3, 9, 3, 0}, {9, 3, 3, 1}, {3, 3, 3, 0}, {3, 4, 3, 0}, {4, 3, 3, 1}, {4, 5, 4, 0}, {5, 4, 4, 1}, {4, 4, 4, 0},
            {5, 5, 4, 3}, {5, 1000, 4, 3}};
        for (int[] v : told) {
            t.due(v[2], 405, 0, v[0], v[1], 0, 0);
            t.due(v[3], 405, 0, v[0], v[1], 0, 1);
        }
        Twins s = told("n size 9999;n force 9999");
        s.due(9999L * 9999, 405, 0, 1, 1, 0, 0);
        s.due(9999L * 9999 * 1000, 405, 0, 1000, 1000, 0, 0);
        s.due(9999L * 9999 * 1000 * 110 / 200, 405, 0, 1000, 1000, 90, 0);
        looks(t);
    }

    // "times (200 - angle), by 200 (cut off); times WET (..), by 100 (cut off)"
    private static void holdsCutOff() {
        Twins t = told("n force 9;n size 1");
        t.due(9, 405, 0, 1, 1, 0, 0);
        t.due(8, 405, 0, 1, 1, 1, 0);
        t.due(6, 405, 0, 1, 1, 50, 0);
        t.due(4, 405, 0, 1, 1, 90, 0);
        t.due(0, 404, 0, 90);
        t.due(8, 405, 0, 1, 1, 0, 0);
        t.due(5, 405, 0, 1, 1, 50, 0);
        t.due(0, 404, 0, 1);
        t.due(0, 405, 0, 1, 1, 0, 0);
        t.due(0, 405, 0, 1, 1, 0, 1);
        looks(t);
    }

    // "IllegalArgumentException: n is not 0 .. 1000, or one not 0 .. 10^12."
    private static void togetherAsked() {
        Twins t = new Twins();
        t.number(406, -1, 5);
        t.number(406, 1001, 5);
        t.number(406, 5, -1);
        t.number(406, 5, -2147483648);
        t.number(406, -2147483648, 5);
        t.due(0, 406, 0, 5);
        t.due(0, 406, 0, 0);
        t.due(0, 406, 1000, 0);
        t.due(2500, 406, 1000, 5);
        t.due(2147483647, 406, 1, 2147483647);
        t.due(1000L * 2147483647 / 2, 406, 1000, 2147483647);
        looks(t);
    }

    // "n * (what one HOLDS) * (100 - LESS * (n - 1)) / 100 (cut off), the percentage at least 50 (LESS 2 at first)"
    private static void togetherHalf() {
        Twins t = new Twins();
        t.due(1, 406, 1, 1);
        t.due(1, 406, 2, 1);
        t.due(2, 406, 3, 1);
        t.due(25 * 52, 406, 25, 100);
        t.due(26 * 50, 406, 26, 100);
        t.due(27 * 50, 406, 27, 100);
        t.due(0, 404, 1, 49);
        t.due(2 * 51, 406, 2, 100);
        t.due(0, 404, 1, 50);
        t.due(2 * 50, 406, 2, 100);
        t.due(0, 404, 1, 51);
        t.due(2 * 50, 406, 2, 100);
        looks(t);
    }

    // "The least n (1 .. 100) that hold a load TOGETHER; NONE if none do. IllegalArgumentException: load or one is not
    // 0 .. 10^12."
    private static void counts() {
        Twins t = new Twins();
        t.number(407, -1, 5);
        t.number(407, 5, -1);
        t.number(407, -2147483648, 5);
        t.due(1, 407, 0, 0);
        t.due(1, 407, 0, 5);
        t.due(-1, 407, 1, 0);
        t.due(1, 407, 5, 5);
        t.due(2, 407, 6, 5);
        t.due(2, 407, 9, 5);
        t.due(3, 407, 10, 5);
        t.due(100, 407, 5000, 100);
        t.due(100, 407, 4951, 100);
        t.due(99, 407, 4950, 100);
        t.due(-1, 407, 5001, 100);
        t.due(1, 407, 2147483647, 2147483647);
        t.due(0, 404, 1, 0);
        t.due(100, 407, 10000, 100);
        t.due(-1, 407, 10001, 100);
        looks(t);
    }

    // "IndexOutOfBoundsException; IllegalArgumentException: w or h is not 1 .. 100000, or n not 1 .. 100."
    private static void patternsAsked() {
        Twins t = new Twins();
        t.thing(408, -1, 9, 9, 1);
        t.thing(408, 4, 9, 9, 1);
        t.thing(408, 4, 0, 0, 0);
        t.number(408, 0, 0, 9, 1);
        t.number(408, 0, 100001, 9, 1);
        t.number(408, 0, 9, 0, 1);
        t.number(408, 0, 9, 100001, 1);
        t.number(408, 0, 9, 9, 0);
        t.number(408, 0, 9, 9, 101);
        t.state(409, 0, 0);
        t.due(0, 408, 0, 1, 1, 1);
        t.state(409, 0, 0);
        t.due(1, 408, 0, 100000, 100000, 100);
        t.due(1, 409, 0, 0);
        t.due(100, 409, 99, 0);
        t.due(1, 409, 99, 1);
        t.thing(409, 100, 0);
        t.due(1, 408, 3, 2, 2, 1);
        t.due(1, 409, 0, 0);
        t.thing(409, 1, 0);
        looks(t);
    }

    // "columns (w - 2 * e) / f + 1 and rows (h - 2 * u) / v + 1 (cut off; none of both, if what is left is below 0); if
    // there are n at least"
    private static void patternSizes() {
        Twins t = told("b size 2;b end 3;b side 4;b edge 5;b row 6");
        // e is 6, f 8, u 10, v 12.
        int[][] told = {{11, 100, 0}, {12, 20, 1}, {12, 19, 0}, {11, 19, 0}, {12, 31, 1}, {12, 32, 2}, {19, 20, 1}, {20, 20, 2}, {27, 32, 4},
            {28, 32, 6}, {28, 43, 6}, {28, 44, 9}, {1, 100000, 0}, {100000, 1, 0}};
        for (int[] v : told) {
            if (v[2] > 0) {
                t.due(1, 408, 2, v[0], v[1], v[2]);
            }
            t.due(0, 408, 2, v[0], v[1], v[2] + 1);
            t.due(v[2] > 0 ? 1 : 0, 408, 2, v[0], v[1], 1);
        }
        looks(t);
    }

    // "the first n places, row by row: x = e + column * f, y = u + row * v"; "IllegalStateException: none (first);
    // IndexOutOfBoundsException."
    private static void patternPlaces() {
        Twins t = told("b size 2;b end 3;b side 4;b edge 5;b row 6");
        t.state(409, 0, 2);
        t.state(409, -1, 0);
        t.due(1, 408, 2, 28, 44, 8);
        for (int k = 0; k < 8; k++) {
            t.due(6 + k % 3 * 8, 409, k, 0);
            t.due(10 + k / 3 * 12, 409, k, 1);
        }
        t.thing(409, 8, 0);
        t.thing(409, -1, 0);
        t.thing(409, 0, 2);
        t.thing(409, 0, -1);
        looks(t);
    }

    // "whether there is one (else the one before stays)"; "of the latest PATTERN (as it was made)"
    private static void patternStays() {
        Twins t = told("b size 2;b end 3;b side 4;b edge 5;b row 6");
        t.due(1, 408, 2, 28, 44, 9);
        t.due(0, 408, 2, 28, 44, 10);
        t.due(22, 409, 8, 0);
        t.read(401, "b size 9;b end 9", 2);
        t.due(22, 409, 8, 0);
        t.due(34, 409, 8, 1);
        t.number(408, 2, 0, 44, 1);
        t.thing(408, 4, 28, 44, 1);
        t.due(0, 408, 2, 28, 44, 1);
        t.due(22, 409, 8, 0);
        t.due(1, 408, 0, 2, 2, 1);
        t.thing(409, 1, 0);
        t.due(1, 409, 0, 1);
        // Spaces of 9999 by 9999 are beyond each plate.
        Twins s = told("n size 9999;n end 9999;n edge 9999;n side 9999;n row 9999");
        s.due(0, 408, 0, 100000, 100000, 1);
        Twins r = told("n size 9999;n side 9999;n row 9999");
        r.due(0, 408, 0, 19997, 19998, 1);
        r.due(0, 408, 0, 19998, 19997, 1);
        r.due(1, 408, 0, 19998, 19998, 1);
        r.due(9999, 409, 0, 0);
        r.due(0, 408, 0, 100000, 100000, 2);
        looks(t);
    }

    // "how many there are. IllegalArgumentException: x or y is not 0 .. 100000; IllegalStateException: there are 32.";
    // "There are no PLACES."
    private static void places() {
        Twins t = new Twins();
        t.number(410, -1, 5);
        t.number(410, 100001, 5);
        t.number(410, 5, -1);
        t.number(410, 5, 100001);
        t.due(1, 410, 0, 0);
        t.due(2, 410, 100000, 100000);
        for (int i = 3; i <= 32; i++) {
            t.due(i, 410, 10 * i, 10);
        }
        t.state(410, 5, 5);
        t.number(410, -1, 5);
        t.number(410, 5, 100001);
        t.due(1, 412, 0, 100000, 100000);
        t.due(0, 411);
        t.due(0, 412, 0, 1, 1);
        t.due(0, 411);
        t.due(1, 410, 5, 5);
        t.due(0, 412, 0, 500, 500);
        looks(t);
    }

    // "IndexOutOfBoundsException; IllegalArgumentException: w or h is not 1 .. 100000."
    private static void keepsAsked() {
        Twins t = new Twins();
        t.thing(412, -1, 9, 9);
        t.thing(412, 4, 9, 9);
        t.thing(412, 4, 0, 0);
        t.number(412, 0, 0, 9);
        t.number(412, 0, 100001, 9);
        t.number(412, 0, 9, 0);
        t.number(412, 0, 9, 100001);
        t.due(0, 412, 0, 1, 1);
        t.due(0, 412, 3, 100000, 100000);
        looks(t);
    }

    // "each is EDGE, END from its sides at least"; "1 + the first place that is too near to a side"
    private static void keepsSides() {
        // END is 6, EDGE is 10.
        int[][] told = {{6, 10, 0}, {5, 10, 1}, {6, 9, 1}, {94, 90, 0}, {95, 90, 1}, {94, 91, 1}, {0, 50, 1}, {50, 0, 1}, {100, 50, 1},
            {101, 50, 1}, {50, 101, 1}, {100000, 50, 1}, {6, 90, 0}, {94, 10, 0}};
        for (int[] v : told) {
            Twins t = told("b size 2;b end 3;b edge 5");
            t.due(1, 410, v[0], v[1]);
            t.due(v[2], 412, 2, 100, 100);
            t.due(2, 410, 50, 50);
            t.due(v[2], 412, 2, 100, 100);
            Twins s = told("b size 2;b end 3;b edge 5");
            s.due(1, 410, 50, 50);
            s.due(2, 410, v[0], v[1]);
            s.due(v[2] == 0 ? 0 : 2, 412, 2, 100, 100);
        }
        Twins t = told("b size 2;b end 3;b edge 5");
        for (int i = 1; i <= 31; i++) {
            t.due(i, 410, 50, 10 + 2 * i);
        }
        t.due(32, 410, 50, 9);
        t.due(32, 412, 2, 100, 100);
        looks(t);
    }

    // "each two of them are SIDE * SIZE apart at least (by squares)"; "100 + 32 * a + b, the first pair (a below b, by a,
    // then b) too near (sides first)"
    private static void keepsPairs() {
        // SIDE * SIZE is 10.
        int[][] told = {{60, 50, 0}, {59, 50, 101}, {50, 60, 0}, {50, 59, 101}, {56, 58, 0}, {56, 57, 101}, {55, 58, 101}, {44, 42, 0},
            {44, 43, 101}, {50, 50, 101}, {40, 50, 0}, {41, 50, 101}};
        for (int[] v : told) {
            Twins t = told("b size 2;b side 5");
            t.due(1, 410, 50, 50);
            t.due(2, 410, v[0], v[1]);
            t.due(v[2], 412, 2, 100, 100);
        }
        Twins t = told("b size 2;b side 5");
        t.due(1, 410, 10, 10);
        t.due(2, 410, 30, 10);
        t.due(3, 410, 50, 10);
        t.due(4, 410, 31, 10);
        t.due(5, 410, 11, 10);
        t.due(100 + 4, 412, 2, 100, 100);
        t.due(6, 410, 12, 10);
        t.due(100 + 4, 412, 2, 100, 100);
        t.due(7, 410, 1, 10);
        t.due(7, 412, 2, 100, 100);
        Twins s = told("b size 2;b side 5");
        for (int i = 0; i < 31; i++) {
            s.due(i + 1, 410, 20 + 10 * i, 20);
        }
        s.due(32, 410, 320, 29);
        s.due(100 + 32 * 30 + 31, 412, 2, 1000, 1000);
        s.due(0, 412, 3, 1000, 1000);
        // The greatest distances.
        Twins r = told("b size 9999;b side 9999");
        r.due(1, 410, 9999, 9999);
        r.due(0, 412, 2, 100000, 100000);
        r.due(2, 410, 90001, 90001);
        r.due(101, 412, 2, 100000, 100000);
        looks(t);
    }

    // "a place is not -10000 .. 10000, both ends are one, or wide not 1 .. 10000; IllegalStateException: there are 6."
    private static void members() {
        Twins t = new Twins();
        for (int i = 0; i < 4; i++) {
            for (int v : new int[] {-10001, 10001, -2147483648, 2147483647}) {
                int[] call = {413, 1, 2, 3, 4, 5};
                call[1 + i] = v;
                t.number(call);
            }
        }
        t.number(413, 5, 5, 5, 5, 1);
        t.number(413, 0, 0, 0, 0, 0);
        t.number(413, 3, 7, 3, 7, 5);
        t.number(413, -10000, 10000, -10000, 10000, 5);
        t.number(413, 0, 0, 5, 0, 0);
        t.number(413, 0, 0, 5, 0, 10001);
        t.number(413, 0, 0, 5, 0, -1);
        t.thing(414, 0, 0, 0);
        t.due(0, 413, -10000, -10000, 10000, 10000, 10000);
        t.due(1, 413, 10000, 10000, -10000, -10000, 1);
        t.due(2, 413, 0, 0, 0, 1, 1);
        t.due(3, 413, 0, 0, 1, 0, 1);
        t.due(4, 413, 5, 5, 5, 4, 1);
        t.due(5, 413, 3, 5, 5, 3, 1);
        t.state(413, 0, 0, 1, 0, 1);
        t.number(413, 5, 5, 5, 5, 1);
        t.number(413, 0, 0, 10001, 0, 1);
        t.number(413, 0, 0, 1, 0, 0);
        t.thing(414, 6, 0, 0);
        t.due(1, 414, 5, 4, 4);
        looks(t);
    }

    // "IndexOutOfBoundsException; IllegalArgumentException: x or y is not -10000 .. 10000."
    private static void inMembers() {
        Twins t = new Twins();
        t.due(0, 413, -10000, 0, 10000, 0, 10000);
        t.thing(414, 1, 0, 0);
        t.thing(414, -1, 0, 0);
        t.thing(414, 1, 10001, 0);
        t.number(414, 0, 10001, 0);
        t.number(414, 0, -10001, 0);
        t.number(414, 0, 0, 10001);
        t.number(414, 0, 0, -10001);
        t.due(1, 414, 0, -10000, 0);
        t.due(1, 414, 0, 10000, 0);
        t.due(0, 414, 0, 0, 10000);
        t.due(0, 414, 0, 0, -10000);
        t.due(1, 414, 0, 0, 5000);
        t.due(0, 414, 0, 0, 5001);
        t.due(1, 414, 0, 0, -5000);
        t.due(0, 414, 0, 0, -5001);
        looks(t);
    }

    // "its distance from the line of the member is at most WIDE / 2 (exactly, also of an odd WIDE), and it lies beside it
    // (not beyond its ends; right at one it does)"
    private static void inExactly() {
        Twins t = new Twins();
        t.due(0, 413, 10, 10, 20, 10, 4);
        t.due(1, 413, 10, 10, 20, 10, 5);
        t.due(2, 413, 10, 10, 10, 20, 1);
        t.due(3, 413, 0, 0, 30, 40, 10);
        t.due(4, 413, 0, 0, 30, 40, 9);
        t.due(5, 413, 0, 0, 3, 3, 3);
        int[][] told = {{0, 10, 12, 1}, {0, 10, 13, 0}, {0, 20, 8, 1}, {0, 20, 7, 0}, {0, 9, 10, 0}, {0, 21, 10, 0}, {1, 15, 12, 1},
            {1, 15, 13, 0}, {2, 10, 10, 1}, {2, 10, 20, 1}, {2, 10, 21, 0}, {2, 10, 9, 0}, {2, 11, 15, 0}, {2, 9, 15, 0},
            {3, 4, -3, 1}, {4, 4, -3, 0}, {3, -4, 3, 1}, {3, 4, -4, 0}, {3, 3, -3, 0}, {3, 34, 37, 1}, {3, 26, 43, 1}, {4, 26, 43, 0},
            {3, 35, 37, 0}, {5, 2, 0, 1}, {5, 0, 2, 1}, {5, 3, 0, 0}, {5, 1, 3, 1}, {5, 0, 3, 0}, {5, -1, 1, 1}, {5, -1, 0, 0}};
        for (int[] v : told) {
            t.due(v[3], 414, v[0], v[1], v[2]);
        }
        looks(t);
    }

    // "IllegalArgumentException: x or y is not -10000 .. 10000, w or h not 0 .. 1000, or step not 10 .. 1000."
    private static void teethAsked() {
        Twins t = new Twins();
        t.due(0, 413, -10000, -10000, 10000, -10000, 10);
        t.thing(415, 1, 0, 0, 0, 0, 10);
        t.thing(415, -1, 0, 0, 0, 0, 10);
        t.thing(415, 1, 10001, 0, 0, 0, 9);
        t.number(415, 0, 10001, 0, 0, 0, 10);
        t.number(415, 0, -10001, 0, 0, 0, 10);
        t.number(415, 0, 0, 10001, 0, 0, 10);
        t.number(415, 0, 0, -10001, 0, 0, 10);
        t.number(415, 0, 0, 0, -1, 0, 10);
        t.number(415, 0, 0, 0, 1001, 0, 10);
        t.number(415, 0, 0, 0, 0, -1, 10);
        t.number(415, 0, 0, 0, 0, 1001, 10);
        t.number(415, 0, 0, 0, 0, 0, 9);
        t.number(415, 0, 0, 0, 0, 0, 1001);
        t.number(415, 0, 0, 0, 0, 0, 0);
        t.number(415, 0, 0, 0, 0, 0, -2147483648);
        t.due(1, 415, 0, -10000, -10000, 0, 0, 10);
        t.due(1, 415, 0, 10000, -10000, 0, 0, 1000);
        t.due(1, 415, 0, 10000, -10000, 1000, 1000, 10);
        t.due(0, 415, 0, 10000, 10000, 1000, 1000, 1000);
        t.due(101, 415, 0, -10000, -10000, 1000, 1000, 10);
        looks(t);
    }

    // "at x + STEP * i, y + STEP * j (i, j = 0, 1, ..; STEP * i not above w, STEP * j not above h)"
    private static void teethSteps() {
        Twins t = new Twins();
        t.due(0, 413, -500, 0, 500, 0, 10000);
        int[][] told = {{0, 0, 10, 1}, {9, 9, 10, 1}, {10, 9, 10, 2}, {9, 10, 10, 2}, {10, 10, 10, 4}, {19, 10, 10, 4}, {20, 10, 10, 6},
            {20, 20, 20, 4}, {999, 999, 1000, 1}, {1000, 1000, 1000, 4}, {100, 100, 11, 100}};
        for (int[] v : told) {
            t.due(v[3], 415, 0, -500, 0, v[0], v[1], v[2]);
        }
        Twins s = new Twins();
        s.due(0, 413, 0, 0, 100, 0, 21);
        s.due(2 * 11, 415, 0, 0, 0, 200, 200, 10);
        s.due(3 * 11, 415, 0, -50, -10, 200, 200, 10);
        s.due(2 * 10, 415, 0, 5, -5, 200, 200, 10);
        looks(t);
    }

    // "Whether wood is thick enough for a KIND (THIN * SIZE at least). IndexOutOfBoundsException;
    // IllegalArgumentException: thick is below 0."
    private static void thick() {
        Twins t = told("b size 7;b thin 3;d size 9999;d thin 9999");
        t.thing(416, -1, 5);
        t.thing(416, 4, 5);
        t.thing(416, 4, -1);
        t.number(416, 2, -1);
        t.number(416, 2, -2147483648);
        t.due(0, 416, 2, 0);
        t.due(0, 416, 2, 20);
        t.due(1, 416, 2, 21);
        t.due(1, 416, 2, 2147483647);
        t.due(0, 416, 3, 99980000);
        t.due(1, 416, 3, 99980001);
        t.due(0, 416, 0, 0);
        t.due(1, 416, 0, 1);
        looks(t);
    }

    // "for a nail of SIZE above 50 and for a screw SIZE * 7 / 10 (cut off), for a bolt SIZE + 10, for a dowel SIZE; else 0.
    // IndexOutOfBoundsException."
    private static void holes() {
        int[][] told = {{1, 0, 0, 11, 1}, {2, 0, 1, 12, 2}, {9, 0, 6, 19, 9}, {10, 0, 7, 20, 10}, {50, 0, 35, 60, 50}, {51, 35, 35, 61, 51},
            {53, 37, 37, 63, 53}, {9999, 6999, 6999, 10009, 9999}};
        for (int[] v : told) {
            Twins t = told("n size " + v[0] + ";s size " + v[0] + ";b size " + v[0] + ";d size " + v[0]);
            for (int kind = 0; kind < 4; kind++) {
                t.due(v[1 + kind], 417, kind);
            }
            t.thing(417, 4);
            t.thing(417, -1);
        }
    }
}
