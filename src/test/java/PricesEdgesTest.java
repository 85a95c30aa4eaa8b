/** PRICES: each sentence that names a boundary, its last value that is allowed and its first that is not. */
public final class PricesEdgesTest {
    private static final int A = 'a';
    private static final int Z = 'z';

    public static void main(String[] args) {
        atFirst();
        fourTimes();
        forgotten();
        units();
        room();
        ends();
        linesFull();
        tooFew();
        seventh();
        sixthDigit();
        otherCharacters();
        endOfText();
        spaces();
        linesStay();
        facts();
        forgets();
        letters();
        openLines();
        firstReason();
        beyondAbove();
        beyondBelow();
        beyondFacts();
        hundredths();
        hundredthsBeyond();
        lesserGreater();
        byZero();
        percents();
        equals();
        stepByStep();
        totalBeyond();
        cents();
        linesAsked();
        changed();
        currencies();
        currenciesFull();
        centsAt();
        offers();
        offersOpen();
        offered();
        differs();
        invoices();
        invoicesBelow();
        refunds();
        learned();
        Check.end();
    }

    private static void looks(Twins t) {
        t.same(805);
        t.same(806);
        for (int k = 0; k < 3; k++) {
            for (int part = 0; part < 4; part++) {
                t.same(807, k, part);
            }
            t.same(810, 10 * k);
            t.same(812, k, 0);
            t.same(813, k, 0);
            t.same(815, k);
        }
        t.same(808, A, 3, 7);
        t.same(808, Z, 1, 1);
    }

    private static Twins told(String text, int lines) {
        Twins t = new Twins();
        t.read(801, text, lines);
        return t;
    }

    private static void line(Twins t, int k, long above, long below, int reason, int place) {
        t.due(above, 807, k, 0);
        t.due(below, 807, k, 1);
        t.due(reason, 807, k, 2);
        t.due(place, 807, k, 3);
    }

    private static void atFirst() {
        Twins t = new Twins();
        t.due(0, 805);
        t.due(0, 806);
        t.thing(807, 0, 0);
        t.due(0, 804, A);
        t.due(0, 804, Z);
        t.due(0, 810, 0);
        t.thing(812, 0, 0);
        t.thing(813, 0, 0);
        t.thing(814, 0, 0);
        t.thing(815, 0);
        t.thing(816, 0, 0);
        t.due(-1, 802);
        t.due(5, 817, 0, 5);
        looks(t);
    }

    // "1; 0, and nothing, if it was made ANEW 4 times."
    private static void fourTimes() {
        Twins t = new Twins();
        for (int i = 0; i < 4; i++) {
            t.due(1, 800);
        }
        t.read(801, "a;", 1);
        t.due(0, 803, A, 5, 1);
        t.due(0, 811, 9);
        t.due(3, 817, 7, 3);
        t.write(801, "7;");
        t.due(0, 800);
        t.due(500, 806);
        t.due(1, 802);
        t.due(700, 806);
        t.due(500, 812, 0, 9);
        t.due(2, 817, 7, 2);
        looks(t);
    }

    // "all that was told it is forgotten"
    private static void forgotten() {
        Twins t = told("5;", 1);
        t.due(0, 803, A, 5, 1);
        t.due(1, 809, 50, 1, 2);
        t.due(0, 811, 9);
        t.due(0, 814, 0, 0);
        t.due(100000, 817, 3, 100000);
        t.write(801, "7;");
        t.due(1, 800);
        t.due(0, 806);
        t.due(-1, 802);
        t.due(0, 804, A);
        t.thing(812, 0, 0);
        t.thing(815, 0);
        t.due(0, 817, 3, 0);
        t.due(1, 817, 3, 2);
        t.due(1, 809, 0, 1, 1);
        t.read(801, "5;", 1);
        t.due(500, 810, 60);
        t.due(0, 811, 9);
        looks(t);
    }

    // "A character more behind the text: whether there was room, and it is 32 .. 126."
    private static void units() {
        Twins t = new Twins();
        int[][] told = {{31, 0}, {127, 0}, {-1, 0}, {0, 0}, {9, 0}, {10, 0}, {128, 0}, {309, 0}, {2147483647, 0}, {-2147483648, 0}, {32, 1}, {126, 1}};
        for (int[] v : told) {
            t.due(v[1], 801, v[0]);
        }
        t.due(-2, 802);
        t.write(801, "5");
        t.due(0, 801, 31);
        t.due(0, 801, 127);
        t.due(1, 801, ';');
        t.due(1, 802);
        t.due(500, 806);
        looks(t);
    }

    // "A TEXT, at most 240 characters"
    private static void room() {
        Twins t = new Twins();
        t.write(801, "7" + " ".repeat(238) + ";");
        t.due(0, 801, '1');
        t.due(0, 801, ' ');
        t.due(1, 802);
        t.due(700, 806);
        t.write(801, "8;");
        t.due(1, 802);
        t.due(800, 806);
        Twins s = new Twins();
        s.write(801, " ".repeat(239));
        s.due(1, 801, '7');
        s.due(0, 801, ';');
        s.due(-1 - 240, 802);
        looks(t);
    }

    // "an END: ; (59) .. % (37) .. = (61)"; "An END needs just one on the stack, and takes it."; "an END with none or several"
    private static void ends() {
        for (String end : new String[] {";", "%", "="}) {
            Twins t = new Twins();
            t.read(801, end, -1);
            t.read(801, "1 2" + end, -4);
            t.read(801, "a b c d e f" + end, -12);
            t.read(801, "1" + end + end, -3);
            t.read(801, "1" + end + " " + end, -4);
            t.read(801, "1" + end, 1);
            t.read(801, "1 2+" + end, 1);
            t.read(801, "1" + end + "2" + end, 2);
        }
    }

    // "has 1 to 16 LINES"; "a 17th line"
    private static void linesFull() {
        Twins t = told("1;".repeat(15), 15);
        t.read(801, "1;".repeat(16), 16);
        t.due(1600, 806);
        t.due(1, 807, 15, 0);
        t.thing(807, 16, 0);
        Twins s = told("1;".repeat(16) + "1;", -33);
        s.read(801, "1;".repeat(16) + "1", -33);
        s.read(801, "1;".repeat(16) + ";", -33);
        s.read(801, "1;".repeat(16) + "r", -33);
        Twins r = told("1;".repeat(16) + " x", -34);
        r.read(801, "1;".repeat(15) + "2%", 16);
        r.read(801, "1;".repeat(15) + "2=", 16);
        r.due(200, 806);
        looks(t);
    }

    // "a sign that has too few": two for + - * / < >, one for r.
    private static void tooFew() {
        Twins t = new Twins();
        for (String sign : new String[] {"+", "-", "*", "/", "<", ">"}) {
            t.read(801, sign, -1);
            t.read(801, "1" + sign, -2);
            t.read(801, "a" + sign, -2);
            t.read(801, "1 2" + sign + sign, -5);
            t.read(801, "1 2" + sign + ";", 1);
            t.read(801, "1;" + sign, -3);
        }
        t.read(801, "r", -1);
        t.read(801, "r;", -1);
        t.read(801, "1;r", -3);
        t.read(801, "1r;", 1);
        t.read(801, "1rr;", 1);
        looks(t);
    }

    // "(at first empty, at most 6 high)"; "a seventh on the stack"
    private static void seventh() {
        Twins t = told("1 2 3 4 5 6+++++;", 1);
        t.due(2100, 806);
        t.read(801, "1 2 3 4 5 6 7", -13);
        t.read(801, "abcdef+++++;", 1);
        t.read(801, "abcdefg", -7);
        t.read(801, "abcdef1", -7);
        t.read(801, "abcdef123456", -7);
        t.read(801, "abcdef+g+++++;", 1);
        t.read(801, "abcdef+gh", -9);
        t.read(801, "abcdefr+++++;", 1);
        t.read(801, "abcdef;", -7);
        // The stack is empty again behind an END.
        t.read(801, "1;abcdef+++++;abcdef+++++;", 3);
        looks(t);
    }

    // "a number (one to five digits)"; "a sixth digit"
    private static void sixthDigit() {
        Twins t = told("0;", 1);
        t.due(0, 806);
        t.read(801, "9;", 1);
        t.due(900, 806);
        t.read(801, "99999;", 1);
        t.due(9999900, 806);
        t.read(801, "00000;", 1);
        t.due(0, 806);
        t.read(801, "00012;", 1);
        t.due(1200, 806);
        t.read(801, "000012;", -6);
        t.read(801, "999999;", -6);
        t.read(801, "1234567;", -6);
        t.read(801, "1;123456;", -8);
        t.read(801, "12345 6+;", 1);
        t.due(1235100, 806);
        t.read(801, "12345a+;", 1);
        t.read(801, "a12345+;", 1);
        looks(t);
    }

    // "any other character"
    private static void otherCharacters() {
        Twins t = told("7;", 1);
        for (char c = 33; c < 127; c++) {
            boolean digit = c >= '0' && c <= '9';
            boolean letter = c >= 'a' && c <= 'z' && c != 'r';
            boolean two = "+-*/<>".indexOf(c) >= 0;
            boolean end = ";%=".indexOf(c) >= 0;
            t.read(801, "1 2" + c, digit || letter || two || c == 'r' ? -5 : -4);
            if (!end && !two && !digit && !letter && c != 'r') {
                t.read(801, "" + c + ";", -1);
            }
            if (c % 32 == 0) {
                looks(t);
                t = told("7;", 1);
            }
        }
        looks(t);
    }

    // "the text's end if a line is not ended, or there is none"
    private static void endOfText() {
        String text = "12 a+r;3%b =";
        int[] lines = new int[text.length() + 1];
        lines[7] = 1;
        lines[9] = 2;
        lines[12] = 3;
        for (int length = 0; length <= text.length(); length++) {
            // Behind "3%" a space alone stands for nothing.
            told(text.substring(0, length), lines[length] > 0 ? lines[length] : -1 - length);
        }
        told("", -1);
        told(" ", -2);
        told("1;2", -4);
        told("1;2 ", -5);
    }

    // "A space (32) parts signs and is nothing by itself."
    private static void spaces() {
        Twins t = told("  1   2  +  ;  3 ; ", 2);
        t.due(600, 806);
        t.read(801, "1;  ", 1);
        t.read(801, "1 2 3;", -6);
        t.read(801, "12;", 1);
        t.due(1200, 806);
        t.read(801, "1 2*;", 1);
        t.due(200, 806);
        line(t, 0, 2, 1, 0, -1);
        looks(t);
    }

    // "or -1 less the place of a FAULT (the lines of before stay)"; "READING of the text (which is empty then)"
    private static void linesStay() {
        Twins t = told("1;2;", 2);
        t.read(801, "5;6;7", -6);
        t.due(300, 806);
        t.due(2, 807, 1, 0);
        t.thing(807, 2, 0);
        t.due(-1, 802);
        t.due(300, 806);
        t.read(801, "4;", 1);
        t.due(400, 806);
        t.thing(807, 1, 0);
        looks(t);
    }

    // "IndexOutOfBoundsException: no such letter; IllegalArgumentException: below is not 1 .. 10000, or above not -1000000
    // .. 1000000."; "A FACT (letter 97 .. 122, not r)"
    private static void facts() {
        Twins t = told("a;", 1);
        for (int letter : new int[] {96, 123, 'r', 'A', 0, -1, 2147483647, -2147483648}) {
            t.thing(803, letter, 1, 1);
            t.thing(803, letter, 1000001, 0);
            t.thing(808, letter, 1, 1);
            t.thing(808, letter, 1000001, 0);
            t.thing(804, letter);
        }
        for (int[] v : new int[][] {{1, 0}, {1, -1}, {1, 10001}, {1000001, 1}, {-1000001, 1}, {2147483647, 1}, {-2147483648, 1}}) {
            t.number(803, A, v[0], v[1]);
            t.due(0, 804, A);
            t.number(808, A, v[0], v[1]);
            t.due(0, 804, A);
        }
        t.due(1, 805);
        t.due(0, 803, A, 1000000, 1);
        t.due(100000000, 806);
        t.due(0, 803, A, -1000000, 1);
        t.due(-100000000, 806);
        t.due(0, 803, A, 1, 10000);
        line(t, 0, 1, 10000, 0, -1);
        t.due(0, 803, A, 0, 10000);
        line(t, 0, 0, 1, 0, -1);
        t.due(0, 803, A, 6, 4);
        line(t, 0, 3, 2, 0, -1);
        t.due(0, 803, Z, -5, 1);
        t.due(0, 803, 'q', 1, 1);
        t.due(0, 803, 's', 1, 1);
        t.due(1, 804, Z);
        t.due(1, 804, 'q');
        t.due(1, 804, 's');
        looks(t);
    }

    // "A FACT is not told any more: whether it was. IndexOutOfBoundsException."
    private static void forgets() {
        Twins t = told("a;", 1);
        t.due(0, 804, A);
        t.due(0, 803, A, 0, 1);
        t.due(0, 805);
        t.due(1, 804, A);
        t.due(1, 805);
        t.due(0, 804, A);
        t.due(0, 803, A, 3, 1);
        t.due(0, 803, A, 4, 1);
        t.due(1, 804, A);
        t.due(0, 804, A);
        looks(t);
    }

    /** All letters but r are FACTS. */
    private static void letters() {
        for (char c = 'a'; c <= 'z'; c++) {
            if (c != 'r') {
                Twins t = told(c + ";", 1);
                line(t, 0, 0, 1, 1, 0);
                t.due(0, 803, c, c, 7);
                t.due(0, 805);
                t.due(Math.floorDiv(c * 200L + 7, 14), 806);
            }
        }
    }

    // "RUN: how many lines are OPEN."; "it is OPEN if a FACT is not told (reason 1), divided by 0 (2), or .. (3)"; "An OPEN line
    // adds nothing"
    private static void openLines() {
        Twins t = told("5;a;1 0/;50000 20001*;7;", 5);
        t.due(3, 805);
        t.due(1200, 806);
        line(t, 0, 5, 1, 0, -1);
        line(t, 1, 0, 1, 1, 0);
        line(t, 2, 0, 1, 2, 2);
        line(t, 3, 0, 1, 3, 2);
        line(t, 4, 7, 1, 0, -1);
        t.due(0, 803, A, 3, 1);
        t.due(2, 805);
        t.due(1500, 806);
        line(t, 1, 3, 1, 0, -1);
        looks(t);
    }

    // "The first sign (or END) at which that happens tells it."; "of the line's own signs and its END, the first being 0"
    private static void firstReason() {
        Twins t = told("12345 a 0 b/+*;5;1 2 0/a+ +;0 a/;", 4);
        line(t, 0, 0, 1, 1, 1);
        line(t, 2, 0, 1, 2, 3);
        line(t, 3, 0, 1, 1, 1);
        t.due(0, 803, A, 0, 1);
        line(t, 0, 0, 1, 1, 3);
        line(t, 3, 0, 1, 2, 2);
        t.due(0, 803, 'b', 0, 1);
        line(t, 0, 0, 1, 2, 4);
        t.due(3, 805);
        looks(t);
    }

    // "above .. it is beyond 1000000000 without sign (3)"
    private static void beyondAbove() {
        Twins t = told("50000 20000*;", 1);
        line(t, 0, 1000000000, 1, 0, -1);
        t.due(100000000000L, 806);
        t.read(801, "50000 20000*1+;", 1);
        line(t, 0, 0, 1, 3, 4);
        t.read(801, "0 50000 20000*-;", 1);
        line(t, 0, -1000000000, 1, 0, -1);
        t.due(-100000000000L, 806);
        t.read(801, "0 50000 20000*-1-;", 1);
        line(t, 0, 0, 1, 3, 6);
        t.read(801, "50000 20000*2 3/+;", 1);
        line(t, 0, 0, 1, 3, 6);
        t.read(801, "33333 10000*1 3/+;", 1);
        line(t, 0, 999990001, 3, 0, -1);
        t.read(801, "50000 20001*50000/;", 1);
        line(t, 0, 0, 1, 3, 2);
        t.read(801, "50000 20000*0 1-/;", 1);
        line(t, 0, -1000000000, 1, 0, -1);
        looks(t);
    }

    // "above (or below) it is beyond 1000000000": what stands below, without a common divisor.
    private static void beyondBelow() {
        Twins t = told("1 50000/20000/;", 1);
        line(t, 0, 1, 1000000000, 0, -1);
        t.due(0, 806);
        t.read(801, "1 50000/20001/;", 1);
        line(t, 0, 0, 1, 3, 4);
        t.read(801, "2 50000/40000/;", 1);
        line(t, 0, 1, 1000000000, 0, -1);
        t.read(801, "3 50000/40000/;", 1);
        line(t, 0, 0, 1, 3, 4);
        t.read(801, "1 33333/1 33334/+;", 1);
        line(t, 0, 0, 1, 3, 6);
        t.read(801, "1 31622/1 31623/+;", 1);
        line(t, 0, 63245, 31622L * 31623, 0, -1);
        t.read(801, "0 33333/1 33334/*;", 1);
        line(t, 0, 0, 1, 0, -1);
        t.read(801, "0 1-50000/20001/;", 1);
        line(t, 0, 0, 1, 3, 6);
        looks(t);
    }

    private static void beyondFacts() {
        Twins t = told("aa*;", 1);
        t.due(0, 803, A, 31622, 1);
        line(t, 0, 31622 * 31622, 1, 0, -1);
        t.due(0, 803, A, 31623, 1);
        line(t, 0, 0, 1, 3, 2);
        t.due(0, 803, A, -31622, 1);
        line(t, 0, 31622 * 31622, 1, 0, -1);
        t.due(0, 803, A, 1000000, 10000);
        line(t, 0, 10000, 1, 0, -1);
        t.read(801, "aa*a*;", 1);
        t.due(0, 803, A, 1, 1000);
        line(t, 0, 1, 1000000000, 0, -1);
        t.due(0, 803, A, 1, 1001);
        line(t, 0, 0, 1, 3, 4);
        t.due(0, 803, A, 1000, 1);
        line(t, 0, 1000000000, 1, 0, -1);
        t.due(0, 803, A, -1000, 1);
        line(t, 0, -1000000000, 1, 0, -1);
        t.due(0, 803, A, -1001, 1);
        line(t, 0, 0, 1, 3, 4);
        looks(t);
    }

    // "r ..: to a whole number of hundredths (FLOOR of it and a half: halves up, also below 0)"
    private static void hundredths() {
        int[][] told = {{1, 200, 1, 100}, {1, 201, 0, 1}, {1, 199, 1, 100}, {3, 200, 1, 50}, {-1, 200, 0, 1}, {-1, 199, -1, 100},
            {-3, 200, -1, 100}, {-301, 200, -3, 2}, {301, 200, 151, 100}, {7, 1, 7, 1}, {-7, 1, -7, 1}, {0, 5, 0, 1}, {1, 3, 33, 100},
            {2, 3, 67, 100}, {-1, 3, -33, 100}, {-2, 3, -67, 100}, {149, 10000, 1, 100}, {150, 10000, 1, 50}, {-150, 10000, -1, 100},
            {-151, 10000, -1, 50}};
        for (int[] v : told) {
            Twins t = told("ar;", 1);
            t.due(0, 803, A, v[0], v[1]);
            line(t, 0, v[2], v[3], 0, -1);
        }
        Twins t = told("1 200/r 1 200/r+;1 200/1 200/+r;", 2);
        line(t, 0, 1, 50, 0, -1);
        line(t, 1, 1, 100, 0, -1);
        looks(t);
    }

    private static void hundredthsBeyond() {
        // 1000000000 / 3 is 333333333.33 then, of which 33333333333 stands above.
        Twins t = told("50000 20000*r;0=50000 20000*3/r;33333 30000*r;", 4);
        line(t, 0, 1000000000, 1, 0, -1);
        line(t, 2, 0, 1, 3, 5);
        line(t, 3, 999990000, 1, 0, -1);
        Twins s = told("50000 10000*7+50/r;", 1);
        line(s, 0, 500000007, 50, 0, -1);
        looks(t);
    }

    // "< > (the lesser, the greater of two)"; "take the upper two off (the lower one first in - and /)"
    private static void lesserGreater() {
        Twins t = told("2 3<;2 3>;3 2<;3 2>;2 2<;2 2>;1 3/1 2/<;1 3/1 2/>;0 1-2<;0 1-2>;0 1-0 2-<;0 1-0 2->;5 3-;5 3/;", 14);
        int[][] want = {{2, 1}, {3, 1}, {2, 1}, {3, 1}, {2, 1}, {2, 1}, {1, 3}, {1, 2}, {-1, 1}, {2, 1}, {-2, 1}, {-1, 1}, {2, 1}, {5, 3}};
        for (int k = 0; k < want.length; k++) {
            line(t, k, want[k][0], want[k][1], 0, -1);
        }
        looks(t);
    }

    // "divided by 0 (2)"
    private static void byZero() {
        Twins t = told("0 0/;1 1 1-/;0 5/;5 0 1-/;5 0 2-/;0 5-0 2-/;", 6);
        line(t, 0, 0, 1, 2, 2);
        line(t, 1, 0, 1, 2, 4);
        line(t, 2, 0, 1, 0, -1);
        line(t, 3, -5, 1, 0, -1);
        line(t, 4, -5, 2, 0, -1);
        line(t, 5, 5, 2, 0, -1);
        t.due(2, 805);
        looks(t);
    }

    // "% (37) adds (it / 100) * TOTAL"
    private static void percents() {
        Twins t = told("10%200;10%5%0%0 50-%", 6);
        line(t, 0, 0, 1, 0, -1);
        line(t, 1, 200, 1, 0, -1);
        line(t, 2, 20, 1, 0, -1);
        line(t, 3, 11, 1, 0, -1);
        line(t, 4, 0, 1, 0, -1);
        line(t, 5, -231, 2, 0, -1);
        t.due(11550, 806);
        looks(t);
    }

    // "= (61) adds it - TOTAL"
    private static void equals() {
        Twins t = told("10=7;5=5=0=0 3-=", 6);
        long[] want = {10, 7, -12, 0, -5, -3};
        for (int k = 0; k < 6; k++) {
            line(t, k, want[k], 1, 0, -1);
        }
        t.due(-300, 806);
        looks(t);
    }

    // "what an END reckons (step by step, the new TOTAL, too) makes the line OPEN likewise (3)"
    private static void stepByStep() {
        // A percentage of 1 / 10000000 by 100 is just 1 / 1000000000; one of 1 / 10000001 is beyond, whatever the TOTAL is.
        Twins t = told("1 5000/2000/%1 5000/2001/%0 5000/2001/%", 3);
        line(t, 0, 0, 1, 0, -1);
        line(t, 1, 0, 1, 3, 5);
        line(t, 2, 0, 1, 0, -1);
        // 3 / 20000000 by 100 has 2000000000 below.
        Twins s = told("1;3 5000/4000/%", 2);
        line(s, 1, 0, 1, 3, 5);
        s.due(1, 805);
        s.due(100, 806);
        // The product is beyond, above and below.
        Twins r = told("50000 20000*;200%0=1 20000/;1 50001/%", 5);
        line(r, 1, 0, 1, 3, 1);
        line(r, 2, -1000000000, 1, 0, -1);
        line(r, 3, 1, 20000, 0, -1);
        line(r, 4, 0, 1, 3, 3);
        r.due(2, 805);
        // it - TOTAL is beyond, though the new TOTAL would not be.
        Twins q = told("0 50000 20000*-;1=0=", 3);
        line(q, 0, -1000000000, 1, 0, -1);
        line(q, 1, 0, 1, 3, 1);
        line(q, 2, 1000000000, 1, 0, -1);
        q.due(0, 806);
        looks(t);
    }

    private static void totalBeyond() {
        Twins t = told("50000 20000*;1;0 1-;1;1;", 5);
        line(t, 1, 0, 1, 3, 1);
        line(t, 2, -1, 1, 0, -1);
        line(t, 3, 1, 1, 0, -1);
        line(t, 4, 0, 1, 3, 1);
        t.due(2, 805);
        t.due(100000000000L, 806);
        Twins s = told("0 50000 20000*-;0 1-;", 2);
        line(s, 1, 0, 1, 3, 3);
        s.due(-100000000000L, 806);
        // Of 1 / 31623 and 1 / 31624 together more than 1000000000 stands below.
        Twins r = told("1 31623/;1 31624/;1 31622/;", 3);
        line(r, 1, 0, 1, 3, 3);
        line(r, 2, 1, 31622, 0, -1);
        r.due(1, 805);
        Twins q = told("50000 20000*;100%", 2);
        line(q, 1, 0, 1, 3, 1);
        looks(t);
    }

    // "CENTS of the TOTAL are TOTAL * 100, halves up (FLOOR of it and a half)."
    private static void cents() {
        int[][] told = {{1, 200, 1}, {1, 201, 0}, {-1, 200, 0}, {-1, 199, -1}, {-3, 200, -1}, {-301, 200, -150}, {301, 200, 151}, {0, 1, 0},
            {1, 3, 33}, {2, 3, 67}, {-1, 3, -33}, {-2, 3, -67}, {5, 1000, 1}, {4, 1000, 0}, {-5, 1000, 0}, {-6, 1000, -1}};
        for (int[] v : told) {
            Twins t = told("a;", 1);
            t.due(0, 803, A, v[0], v[1]);
            t.due(v[2], 806);
            t.due(v[2], 810, 0);
        }
    }

    // "of a line: what it added to the TOTAL .. above (part = 0), below (1); its reason ..(2), the place of the sign (3; NONE ..).
    // IndexOutOfBoundsException: also of part."
    private static void linesAsked() {
        Twins t = told("5;a;", 2);
        t.thing(807, 2, 0);
        t.thing(807, -1, 0);
        t.thing(807, 0, 4);
        t.thing(807, 0, -1);
        t.thing(807, 2147483647, -2147483648);
        line(t, 0, 5, 1, 0, -1);
        line(t, 1, 0, 1, 1, 0);
        looks(t);
    }

    // "CENTS with another FACT less CENTS with those that are told; the facts stay."
    private static void changed() {
        Twins t = told("a2*;b;", 2);
        t.due(600, 808, A, 3, 1);
        t.due(2, 805);
        t.due(0, 804, A);
        t.due(0, 803, A, 10, 1);
        t.due(-1400, 808, A, 3, 1);
        t.due(0, 808, A, 10, 1);
        t.due(0, 808, A, 20, 2);
        t.due(700, 808, 'b', 7, 1);
        t.due(0, 808, 'c', 7, 1);
        t.due(2000, 806);
        t.due(1, 805);
        t.due(-200000000 - 2000, 808, A, -1000000, 1);
        t.due(200000000 - 2000, 808, A, 1000000, 1);
        t.due(-2000, 808, A, 1, 10000);
        t.due(1, 804, A);
        // A line that the other fact makes OPEN, or closes.
        Twins s = told("1a/;", 1);
        s.due(0, 803, A, 2, 1);
        s.due(-50, 808, A, 0, 1);
        s.due(50, 806);
        looks(t);
    }

    // "IllegalArgumentException: day is not 0 .. 10000, or not behind the one before, or above or below not 1 .. 1000"
    private static void currencies() {
        Twins t = told("10;", 1);
        t.number(809, -1, 1, 1);
        t.number(809, 10001, 1, 1);
        t.number(809, 0, 0, 1);
        t.number(809, 0, 1001, 1);
        t.number(809, 0, 1, 0);
        t.number(809, 0, 1, 1001);
        t.due(1000, 810, 10000);
        t.due(1, 809, 0, 1, 1000);
        t.due(1, 810, 0);
        t.number(809, 0, 1, 1);
        t.number(809, -1, 1, 1);
        t.due(2, 809, 1, 1000, 1);
        t.number(809, 1, 1, 1);
        t.due(1, 810, 0);
        t.due(1000000, 810, 1);
        t.due(3, 809, 10000, 1, 1);
        t.number(809, 10000, 1, 1);
        t.number(809, 10001, 1, 1);
        t.due(1000000, 810, 9999);
        t.due(1000, 810, 10000);
        Twins s = told("10;", 1);
        s.due(1, 809, 10000, 1000, 1000);
        s.number(809, 9999, 1, 1);
        looks(t);
    }

    // "CURRENCY rows, 8 at most"; "IllegalStateException: there are 8.", behind IllegalArgumentException.
    private static void currenciesFull() {
        Twins t = told("10;", 1);
        for (int i = 1; i <= 8; i++) {
            t.due(i, 809, 10 * i, i, 1);
        }
        t.state(809, 81, 1, 1);
        t.number(809, 80, 1, 1);
        t.number(809, 81, 0, 1);
        t.number(809, 81, 1, 1001);
        t.number(809, 10001, 1, 1);
        for (int i = 1; i <= 8; i++) {
            t.due(1000 * Math.max(1, i - 1), 810, 10 * i - 1);
            t.due(1000 * i, 810, 10 * i);
        }
        t.due(8000, 810, 10000);
        looks(t);
    }

    // "CENTS at a day are CENTS * above / below (FLOOR) by the last row not behind it; as they are without one.";
    // "IllegalArgumentException: day is not 0 .. 10000."
    private static void centsAt() {
        Twins t = told("a;", 1);
        t.number(810, -1);
        t.number(810, 10001);
        t.number(810, -2147483648);
        t.due(0, 810, 0);
        t.due(0, 803, A, 5, 100);
        t.due(1, 809, 3, 1, 2);
        t.due(5, 810, 2);
        t.due(2, 810, 3);
        t.due(0, 803, A, -5, 100);
        t.due(-5, 810, 2);
        t.due(-3, 810, 3);
        t.due(0, 803, A, -6, 100);
        t.due(-3, 810, 10000);
        t.number(810, 10001);
        Twins s = told("50000 20000*;", 1);
        s.due(1, 809, 0, 1000, 1);
        s.due(100000000000000L, 810, 0);
        s.read(801, "0 50000 20000*-;", 1);
        s.due(-100000000000000L, 810, 0);
        looks(t);
    }

    // "An OFFER: its number. IllegalArgumentException: until is not 0 .. 10000; IllegalStateException: there are 8, or a line is
    // OPEN."
    private static void offers() {
        Twins t = new Twins();
        t.number(811, -1);
        t.number(811, 10001);
        t.due(0, 811, 0);
        t.due(0, 812, 0, 0);
        t.read(801, "5;", 1);
        t.due(1, 811, 10000);
        for (int i = 2; i < 8; i++) {
            t.due(i, 811, i);
        }
        t.state(811, 5);
        t.number(811, -1);
        t.number(811, 10001);
        t.thing(812, 8, 0);
        t.due(500, 812, 7, 7);
        // "keep CENTS of now"
        t.read(801, "6;", 1);
        t.due(500, 812, 1, 10000);
        t.due(0, 812, 0, 0);
        looks(t);
    }

    private static void offersOpen() {
        Twins t = told("5;a;", 2);
        t.state(811, 5);
        t.number(811, -1);
        t.number(811, 10001);
        t.thing(812, 0, 0);
        t.due(0, 803, A, 0, 1);
        t.due(0, 811, 5);
        t.due(1, 804, A);
        t.state(811, 5);
        t.due(500, 812, 0, 5);
        t.read(801, "9;", 1);
        t.due(1, 811, 5);
        looks(t);
    }

    // "CENTS of an OFFER at a day (as they are, without currency). IndexOutOfBoundsException; IllegalArgumentException: day is not
    // 0 .. 10000; IllegalStateException: it is behind the last day."
    private static void offered() {
        Twins t = told("5;", 1);
        t.thing(812, 0, 0);
        t.due(1, 809, 0, 1, 5);
        t.due(0, 811, 30);
        t.thing(812, 1, 0);
        t.thing(812, -1, 0);
        t.thing(812, 1, 10001);
        t.number(812, 0, -1);
        t.number(812, 0, 10001);
        t.state(812, 0, 31);
        t.state(812, 0, 10000);
        t.due(500, 812, 0, 30);
        t.due(500, 812, 0, 0);
        t.due(1, 811, 0);
        t.due(500, 812, 1, 0);
        t.state(812, 1, 1);
        t.due(2, 811, 10000);
        t.due(500, 812, 2, 10000);
        t.number(812, 2, 10001);
        looks(t);
    }

    // "CENTS of an OFFER less those of another one. IndexOutOfBoundsException."
    private static void differs() {
        Twins t = told("50000 20000*;", 1);
        t.thing(813, 0, 0);
        t.due(0, 811, 3);
        t.due(0, 813, 0, 0);
        t.thing(813, 0, 1);
        t.thing(813, 1, 0);
        t.thing(813, -1, 0);
        t.thing(813, 0, -1);
        t.read(801, "0 50000 20000*-;", 1);
        t.due(1, 811, 3);
        t.due(200000000000L, 813, 0, 1);
        t.due(-200000000000L, 813, 1, 0);
        looks(t);
    }

    // "An INVOICE: its number. IndexOutOfBoundsException: no such offer; IllegalArgumentException: day is not 0 .. 10000;
    // IllegalStateException: there are 8, or it is behind the last day"; "with the currency of that day as it is when the
    // INVOICE is made"
    private static void invoices() {
        Twins t = told("5;", 1);
        t.thing(814, 0, 0);
        t.due(0, 811, 30);
        t.thing(814, 1, 0);
        t.thing(814, -1, 0);
        t.thing(814, 1, -1);
        t.number(814, 0, -1);
        t.number(814, 0, 10001);
        t.state(814, 0, 31);
        t.thing(815, 0);
        t.due(0, 814, 0, 30);
        t.due(1, 809, 10, 3, 2);
        t.due(1, 814, 0, 9);
        t.due(2, 814, 0, 10);
        t.due(500, 815, 0);
        t.due(500, 815, 1);
        t.due(750, 815, 2);
        t.due(2, 809, 11, 1, 7);
        t.due(750, 815, 2);
        t.due(3, 814, 0, 11);
        t.due(71, 815, 3);
        for (int i = 4; i < 8; i++) {
            t.due(i, 814, 0, 0);
        }
        t.state(814, 0, 0);
        t.state(814, 0, 31);
        t.number(814, 0, 10001);
        t.thing(814, 1, 0);
        t.thing(815, 8);
        looks(t);
    }

    // "or it would be below 0"
    private static void invoicesBelow() {
        Twins t = told("a;", 1);
        t.due(0, 803, A, -1, 100);
        t.due(0, 811, 5);
        t.state(814, 0, 5);
        t.due(0, 803, A, 0, 1);
        t.due(1, 811, 5);
        t.due(0, 814, 1, 5);
        t.due(0, 815, 0);
        // FLOOR of what is below 0 stays below 0.
        t.due(1, 809, 0, 1, 1000);
        t.state(814, 0, 5);
        t.due(0, 803, A, 9, 100);
        t.due(2, 811, 5);
        t.due(1, 814, 2, 5);
        t.due(0, 815, 1);
        looks(t);
    }

    // "REFUNDS of them are together never more than it"; "whether so much was left. IndexOutOfBoundsException;
    // IllegalArgumentException: cents are below 0."
    private static void refunds() {
        Twins t = told("5;", 1);
        t.due(0, 811, 30);
        t.thing(816, 0, 5);
        t.due(0, 814, 0, 0);
        t.thing(815, 1);
        t.thing(815, -1);
        t.thing(816, 1, 5);
        t.thing(816, -1, 5);
        t.thing(816, 1, -1);
        t.number(816, 0, -1);
        t.number(816, 0, -2147483648);
        t.due(0, 816, 0, 501);
        t.due(0, 816, 0, 2147483647);
        t.due(500, 815, 0);
        t.due(1, 816, 0, 0);
        t.due(500, 815, 0);
        t.due(1, 816, 0, 300);
        t.due(200, 815, 0);
        t.due(0, 816, 0, 201);
        t.due(1, 816, 0, 200);
        t.due(0, 815, 0);
        t.due(0, 816, 0, 1);
        t.due(1, 816, 0, 0);
        Twins s = told("50000 20000*;", 1);
        s.due(0, 811, 30);
        s.due(0, 814, 0, 0);
        s.due(1, 816, 0, 2147483647);
        s.due(100000000000L - 2147483647, 815, 0);
        looks(t);
    }

    // "of a kind 0 .. 7 how many and the sum of minutes; the mean (cut off)"; "IndexOutOfBoundsException;
    // IllegalArgumentException: minutes are not 0 .. 100000."
    private static void learned() {
        Twins t = new Twins();
        t.thing(817, -1, 5);
        t.thing(817, 8, 5);
        t.thing(817, 8, -1);
        t.number(817, 0, -1);
        t.number(817, 0, 100001);
        t.due(0, 817, 0, 0);
        t.due(0, 817, 0, 1);
        t.due(1, 817, 0, 2);
        t.due(100000, 817, 7, 100000);
        t.due(50000, 817, 7, 0);
        t.due(33333, 817, 7, 0);
        t.number(817, 7, 100001);
        t.due(50000, 817, 7, 100000);
        t.due(7, 817, 1, 7);
        for (int i = 0; i < 200; i++) {
            t.due(100000, 817, 2, 100000);
        }
        looks(t);
    }
}
