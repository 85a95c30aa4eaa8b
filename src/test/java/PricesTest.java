import java.math.BigDecimal;
import java.math.BigInteger;
import java.util.ArrayList;
import java.util.List;
import java.util.Random;

/** PRICES against fractions of any size and a reader of single signs, and the edges that the document names. */
public final class PricesTest {
    private static final BigInteger MOST = BigInteger.valueOf(1000000000);
    private static final Frac[] facts = new Frac[26];

    /** A fraction of any size without a common divisor. */
    private static final class Frac {
        private final BigInteger above;
        private final BigInteger below;

        private Frac(BigInteger a, BigInteger b) {
            BigInteger common = a.gcd(b).max(BigInteger.ONE);
            common = b.signum() < 0 ? common.negate() : common;
            above = a.divide(common);
            below = b.divide(common);
        }

        private static Frac of(long a, long b) {
            return new Frac(BigInteger.valueOf(a), BigInteger.valueOf(b));
        }

        private Frac plus(Frac o) {
            return new Frac(above.multiply(o.below).add(o.above.multiply(below)), below.multiply(o.below));
        }

        private Frac times(Frac o) {
            return new Frac(above.multiply(o.above), below.multiply(o.below));
        }

        private Frac minus(Frac o) {
            return plus(o.times(of(-1, 1)));
        }

        private boolean beyond() {
            return above.abs().compareTo(MOST) > 0 || below.compareTo(MOST) > 0;
        }

        private BigInteger hundredths() {
            BigInteger[] q = above.multiply(BigInteger.valueOf(200)).add(below).divideAndRemainder(below.shiftLeft(1));
            return q[1].signum() < 0 ? q[0].subtract(BigInteger.ONE) : q[0];
        }
    }

    /** What a line came to. */
    private static final class Line {
        private Frac added = Frac.of(0, 1);
        private int reason;
        private int place = -1;
    }

    private static Frac total;

    public static void main(String[] args) {
        Random random = new Random(13);
        for (int i = 0; i < 8000; i++) {
            reads(random);
        }
        for (int i = 0; i < 3000; i++) {
            reckons(random);
        }
        texts();
        lines();
        currencies();
        offers();
        edges();
        Check.end();
    }

    /** - 1 less the place of a fault, or how many lines. */
    private static long readBy(String text) {
        int high = 0;
        int digits = 0;
        int lines = 0;
        boolean open = false;
        for (int at = 0; at < text.length(); at++) {
            char c = text.charAt(at);
            if (c == ' ') {
                digits = 0;
                continue;
            }
            if (lines == 16) {
                return -1 - at;
            }
            if (Character.isDigit(c)) {
                high += digits == 0 ? 1 : 0;
                digits++;
                if (high > 6 || digits > 5) {
                    return -1 - at;
                }
            } else {
                digits = 0;
                if (c == ';' || c == '%' || c == '=') {
                    if (high != 1) {
                        return -1 - at;
                    }
                    high = 0;
                    lines++;
                    open = false;
                    continue;
                } else if (c == 'r') {
                    if (high == 0) {
                        return -1 - at;
                    }
                } else if (c >= 'a' && c <= 'z') {
                    high++;
                    if (high > 6) {
                        return -1 - at;
                    }
                } else if ("+-*/<>".indexOf(c) >= 0) {
                    if (high < 2) {
                        return -1 - at;
                    }
                    high--;
                } else {
                    return -1 - at;
                }
            }
            open = true;
        }
        return open || lines == 0 ? -1 - text.length() : lines;
    }

    private static String line(Random random) {
        StringBuilder s = new StringBuilder();
        int high = 0;
        for (int i = random.nextInt(9); i > 0 || high != 1; i--) {
            int how = random.nextInt(10);
            if (high > 1 && (how > 5 || i <= 0)) {
                s.append("+-*/<>".charAt(random.nextInt(6)));
                high--;
            } else if (high > 0 && how == 5) {
                s.append('r');
            } else if (high < 6) {
                boolean letter = random.nextInt(3) == 0;
                int most = new int[] {3, 200, 99999}[random.nextInt(3)];
                s.append(letter ? "" + (char) ('a' + random.nextInt(6)) : " " + random.nextInt(most + 1));
                high++;
            }
        }
        return s.append(";%=;".charAt(random.nextInt(4))).toString();
    }

    private static void reads(Random random) {
        StringBuilder text = new StringBuilder();
        for (int i = 1 + random.nextInt(random.nextInt(8) == 0 ? 18 : 4); i > 0; i--) {
            text.append(random.nextInt(8) == 0 ? "7;" : line(random));
        }
        for (int i = random.nextInt(3); i > 0; i--) {
            int at = random.nextInt(text.length());
            char sign = "0123456789abrz+-*/<>;%= #!~".charAt(random.nextInt(27));
            if (random.nextBoolean()) {
                text.setCharAt(at, sign);
            } else {
                text.insert(at, sign);
            }
        }
        if (text.length() > 240) {
            text.setLength(240);
        }
        Check.read(new TimberHouse(), 801, text.toString(), readBy(text.toString()));
    }

    private static List<Line> reckon(String text) {
        List<Line> lines = new ArrayList<>();
        total = Frac.of(0, 1);
        Line line = new Line();
        List<Frac> stack = new ArrayList<>();
        int place = 0;
        for (int at = 0; at < text.length(); at++) {
            char c = text.charAt(at);
            if (c == ' ') {
                continue;
            }
            String number = "" + c;
            while (Character.isDigit(c) && at + 1 < text.length() && Character.isDigit(text.charAt(at + 1))) {
                at++;
                number += text.charAt(at);
            }
            boolean ends = c == ';' || c == '%' || c == '=';
            int reason = line.reason != 0 ? 0 : ends ? end(c, stack.get(0), line) : sign(c, number, stack);
            if (reason != 0) {
                line.reason = reason;
                line.place = place;
            }
            place++;
            if (ends) {
                lines.add(line);
                line = new Line();
                stack.clear();
                place = 0;
            }
        }
        return lines;
    }

    private static int sign(char c, String number, List<Frac> stack) {
        Frac v;
        int top = stack.size() - 1;
        if (Character.isDigit(c)) {
            v = Frac.of(Integer.parseInt(number), 1);
        } else if (c == 'r') {
            v = new Frac(stack.remove(top).hundredths(), BigInteger.valueOf(100));
        } else if (c >= 'a' && c <= 'z') {
            v = facts[c - 'a'];
            if (v == null) {
                return 1;
            }
        } else {
            Frac upper = stack.remove(top);
            Frac lower = stack.remove(top - 1);
            if (c == '/' && upper.above.signum() == 0) {
                return 2;
            }
            boolean less = lower.minus(upper).above.signum() < 0;
            v = c == '+' ? lower.plus(upper) : c == '-' ? lower.minus(upper) : c == '*' ? lower.times(upper)
                : c == '/' ? lower.times(new Frac(upper.below, upper.above)) : less == (c == '<') ? lower : upper;
        }
        stack.add(v);
        return v.beyond() ? 3 : 0;
    }

    private static int end(char c, Frac it, Line line) {
        Frac add = it;
        if (c == '%') {
            add = it.times(Frac.of(1, 100));
            if (add.beyond()) {
                return 3;
            }
            add = add.times(total);
        } else if (c == '=') {
            add = it.minus(total);
        }
        if (add.beyond() || total.plus(add).beyond()) {
            return 3;
        }
        total = total.plus(add);
        line.added = add;
        return 0;
    }

    private static void reckons(Random random) {
        TimberHouse x = new TimberHouse();
        for (int f = 0; f < 6; f++) {
            int below = random.nextBoolean() ? 1 + random.nextInt(12) : 1 + random.nextInt(10000);
            int above = random.nextBoolean() ? random.nextInt(50) - 20 : random.nextInt(2000001) - 1000000;
            facts[f] = random.nextInt(6) == 0 ? null : Frac.of(above, below);
            if (facts[f] != null) {
                Check.due(x, 0, 803, 'a' + f, above, below);
            }
        }
        StringBuilder text = new StringBuilder();
        for (int i = 1 + random.nextInt(5); i > 0; i--) {
            text.append(line(random));
        }
        if (text.length() > 240) {
            return;
        }
        Check.read(x, 801, text.toString(), readBy(text.toString()));
        List<Line> lines = reckon(text.toString());
        String at = "lines of " + text;
        Check.due(at, Check.act(x, 805), lines.stream().filter(l -> l.reason != 0).count());
        for (int k = 0; k < lines.size(); k++) {
            Line l = lines.get(k);
            Check.due(at, Check.act(x, 807, k, 0), l.added.above.longValueExact());
            Check.due(at, Check.act(x, 807, k, 1), l.added.below.longValueExact());
            Check.due(at, Check.act(x, 807, k, 2), l.reason);
            Check.due(at, Check.act(x, 807, k, 3), l.place);
        }
        long cents = total.hundredths().longValueExact();
        BigDecimal exact = new BigDecimal(total.above).movePointRight(2).divide(new BigDecimal(total.below), 30, java.math.RoundingMode.FLOOR);
        Check.due(at, cents, exact.add(new BigDecimal("0.5")).setScale(0, java.math.RoundingMode.FLOOR).longValueExact());
        Check.due(at, Check.act(x, 806), cents);
        int f = random.nextInt(6);
        Frac before = facts[f];
        facts[f] = Frac.of(random.nextInt(99) - 40, 7);
        int above = facts[f].above.intValue();
        int below = facts[f].below.intValue();
        reckon(text.toString());
        long other = total.hundredths().longValueExact();
        facts[f] = before;
        Check.due(at, Check.act(x, 808, 'a' + f, above, below), other - cents);
        Check.due(at, Check.act(x, 806), cents);
        Check.due(at, Check.act(x, 804, 'a' + f), before == null ? 0 : 1);
        Check.due(at, Check.act(x, 804, 'a' + f), 0);
    }

    private static void texts() {
        TimberHouse x = new TimberHouse();
        Check.read(x, 801, "", -1);
        Check.read(x, 801, "   ", -4);
        Check.read(x, 801, "5; ", 1);
        Check.read(x, 801, "5; 6", -5);
        Check.read(x, 801, "99999;", 1);
        Check.read(x, 801, "123456;", -6);
        Check.read(x, 801, "1234 56;", -8);
        Check.read(x, 801, "1 2 3 4 5 6 7", -13);
        Check.read(x, 801, "abcdefg", -7);
        Check.read(x, 801, "r", -1);
        Check.read(x, 801, "1+", -2);
        Check.read(x, 801, "1 2;", -4);
        Check.read(x, 801, ";", -1);
        Check.read(x, 801, "A;", -1);
        Check.read(x, 801, "1r;", 1);
        Check.read(x, 801, "1;".repeat(16), 16);
        Check.read(x, 801, "1;".repeat(16) + "  ", 16);
        Check.read(x, 801, "1;".repeat(16) + "  1;", -35);
        Check.due(x, 1600, 806);
        Check.due(x, 0, 805);
        Check.due(x, 0, 801, 31);
        Check.due(x, 0, 801, 127);
        Check.write(x, 801, "1".repeat(240));
        Check.due(x, 0, 801, '1');
        Check.due(x, -6, 802);
        Check.due(x, 1600, 806);
        Check.write(x, 801, "2;");
        Check.due(x, 1, 800);
        Check.due(x, 0, 806);
        Check.due(x, -1, 802);
        Check.due(x, Check.THING, 807, 0, 0);
    }

    private static void lines() {
        TimberHouse x = new TimberHouse();
        Check.read(x, 801, "10;10%5 0/;a;99999 99999*;0 1 2/-r=", 6);
        Check.due(x, 3, 805);
        Check.due(x, 10, 807, 0, 0);
        Check.due(x, 1, 807, 1, 0);
        Check.due(x, 2, 807, 2, 2);
        Check.due(x, 2, 807, 2, 3);
        Check.due(x, 0, 807, 2, 0);
        Check.due(x, 1, 807, 2, 1);
        Check.due(x, -23, 807, 5, 0);
        Check.due(x, 2, 807, 5, 1);
        Check.due(x, -1, 807, 5, 3);
        Check.due(x, Check.THING, 807, 6, 0);
        Check.due(x, Check.THING, 807, 4, 4);
        Check.due(x, 3, 807, 4, 2);
        halves();
    }

    /** Halves go up, also below 0: - 0.005 becomes 0, 0.005 one hundredth. */
    private static void halves() {
        TimberHouse x = new TimberHouse();
        Check.due(x, 0, 803, 'a', -5, 1000);
        Check.read(x, 801, "ar;", 1);
        Check.due(x, 0, 806);
        Check.read(x, 801, "a;", 1);
        Check.due(x, 0, 806);
        Check.due(x, 1, 808, 'a', 5, 1000);
        Check.due(x, -1, 808, 'a', -51, 10000);
        Check.due(x, 0, 806);
        Check.due(x, -1, 807, 0, 0);
        Check.due(x, 200, 807, 0, 1);
        // The TOTAL itself may not be beyond.
        Check.read(x, 801, "99999 10000*;99999 ;2;1;", 4);
        Check.due(x, 1, 805);
        Check.due(x, 3, 807, 1, 2);
        Check.due(x, 1, 807, 1, 3);
        Check.due(x, 99999000300L, 806);
    }

    private static void currencies() {
        TimberHouse x = new TimberHouse();
        Check.read(x, 801, "0 10 3/-;", 1);
        Check.due(x, -333, 806);
        Check.due(x, -333, 810, 0);
        Check.due(x, 1, 809, 5, 1, 2);
        Check.due(x, -333, 810, 4);
        Check.due(x, -167, 810, 5);
        Check.due(x, Check.NUMBER, 809, 5, 1, 1);
        Check.due(x, 2, 809, 6, 1000, 1);
        Check.due(x, -167, 810, 5);
        Check.due(x, -333000, 810, 10000);
        Check.due(x, Check.NUMBER, 810, 10001);
        Check.due(x, Check.NUMBER, 810, -1);
        Check.due(x, Check.NUMBER, 809, 10001, 1, 1);
        Check.due(x, Check.NUMBER, 809, 7, 0, 1);
        Check.due(x, Check.NUMBER, 809, 7, 1, 1001);
        for (int i = 3; i <= 8; i++) {
            Check.due(x, i, 809, 4 + i, 1, 1);
        }
        Check.due(x, Check.STATE, 809, 13, 1, 1);
        Check.due(x, Check.NUMBER, 809, 12, 1, 1);
        TimberHouse y = new TimberHouse();
        Check.due(y, 1, 809, 0, 1, 1);
        Check.due(y, Check.NUMBER, 809, -1, 1, 1);
    }

    private static void offers() {
        TimberHouse x = new TimberHouse();
        Check.due(x, Check.THING, 812, 0, -1);
        Check.read(x, 801, "a;", 1);
        Check.due(x, Check.NUMBER, 811, 10001);
        Check.due(x, Check.STATE, 811, 10);
        Check.due(x, 0, 803, 'a', 99, 10);
        Check.due(x, 0, 811, 10);
        Check.due(x, 0, 803, 'a', -3, 1);
        Check.due(x, 1, 811, 0);
        Check.due(x, 990, 812, 0, 10);
        Check.due(x, Check.STATE, 812, 0, 11);
        Check.due(x, Check.NUMBER, 812, 0, -1);
        Check.due(x, Check.NUMBER, 812, 0, 10001);
        Check.due(x, 1290, 813, 0, 1);
        Check.due(x, -1290, 813, 1, 0);
        Check.due(x, Check.THING, 813, 0, 2);
        Check.due(x, 1, 809, 3, 2, 3);
        Check.due(x, 990, 812, 0, 5);
        Check.due(x, 0, 814, 0, 2);
        Check.due(x, 1, 814, 0, 3);
        Check.due(x, Check.STATE, 814, 0, 11);
        Check.due(x, Check.STATE, 814, 1, 0);
        Check.due(x, Check.NUMBER, 814, 1, -1);
        Check.due(x, Check.THING, 814, 2, -1);
        Check.due(x, 990, 815, 0);
        Check.due(x, 660, 815, 1);
        Check.due(x, 2, 809, 4, 1, 1000);
        Check.due(x, 660, 815, 1);
        Check.due(x, Check.NUMBER, 816, 1, -1);
        Check.due(x, Check.THING, 816, 2, -1);
        Check.due(x, 1, 816, 1, 0);
        Check.due(x, 1, 816, 1, 600);
        Check.due(x, 0, 816, 1, 61);
        Check.due(x, 60, 815, 1);
        Check.due(x, 1, 816, 1, 60);
        Check.due(x, 0, 815, 1);
        Check.due(x, Check.THING, 815, 2);
        for (int i = 2; i < 8; i++) {
            Check.due(x, i, 814, 0, 10);
            Check.due(x, i, 811, 10000);
        }
        Check.due(x, Check.STATE, 814, 0, 10);
        Check.due(x, Check.STATE, 811, 10);
        Check.due(x, Check.NUMBER, 811, -1);
    }

    private static void edges() {
        TimberHouse x = new TimberHouse();
        Check.due(x, Check.THING, 803, 'r', 0, 0);
        Check.due(x, Check.THING, 803, 96, 0, 1);
        Check.due(x, Check.THING, 803, 123, 0, 1);
        Check.due(x, Check.NUMBER, 803, 'a', 0, 0);
        Check.due(x, Check.NUMBER, 803, 'a', 0, 10001);
        Check.due(x, Check.NUMBER, 803, 'a', 1000001, 1);
        Check.due(x, Check.NUMBER, 803, 'a', -1000001, 1);
        Check.due(x, Check.THING, 804, 'r');
        Check.due(x, Check.THING, 808, 'r', 0, 0);
        Check.due(x, Check.NUMBER, 808, 'z', 0, 0);
        Check.due(x, 0, 808, 'z', 0, 1);
        Check.due(x, 0, 804, 'z');
        Check.due(x, 0, 817, 7, 0);
        Check.due(x, 1, 817, 7, 3);
        Check.due(x, 33334, 817, 7, 100000);
        Check.due(x, 5, 817, 0, 5);
        Check.due(x, Check.THING, 817, 8, -1);
        Check.due(x, Check.NUMBER, 817, 0, -1);
        Check.due(x, Check.NUMBER, 817, 0, 100001);
        Check.due(x, 1, 800);
        Check.due(x, 9, 817, 7, 9);
    }
}
