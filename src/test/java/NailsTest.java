import java.util.Random;
import java.util.regex.Matcher;
import java.util.regex.Pattern;

/** NAILS against a grammar told as a pattern, against sums done otherwise, and the edges that the document names. */
public final class NailsTest {
    private static final String STATEMENT = "[nsbd] (?:size|force|edge|end|side|row|thin) [0-9]{1,4}";
    private static final Pattern TEXT = Pattern.compile(STATEMENT + "(?:;" + STATEMENT + "){0,15}");
    private static final String[] WORDS = {"size", "force", "edge", "end", "side", "row", "thin"};

    public static void main(String[] args) {
        Random random = new Random(11);
        for (int i = 0; i < 6000; i++) {
            reads(random);
        }
        texts();
        for (int i = 0; i < 300; i++) {
            holds(random);
            patterns(random);
            places(random);
            members(random);
        }
        edges();
        Check.end();
    }

    private static long fault(String text) {
        int fault = -1;
        for (int end = 1; end <= text.length() && fault < 0; end++) {
            Matcher m = TEXT.matcher(text.substring(0, end));
            fault = m.matches() || m.hitEnd() ? -1 : end - 1;
        }
        if (fault < 0 && !TEXT.matcher(text).matches()) {
            fault = text.length();
        }
        Matcher numbers = Pattern.compile("[0-9]{1,4}").matcher(fault < 0 ? text : text.substring(0, fault));
        while (numbers.find()) {
            if (Integer.parseInt(numbers.group()) == 0) {
                return -1 - numbers.start();
            }
        }
        return fault < 0 ? text.split(";").length : -1 - fault;
    }

    private static String statement(Random random) {
        String number = random.nextInt(30) == 0 ? "0" : "" + (1 + random.nextInt(random.nextBoolean() ? 12 : 9999));
        return "nsbd".charAt(random.nextInt(4)) + " " + WORDS[random.nextInt(7)] + " " + (random.nextInt(9) == 0 ? "0" : "") + number;
    }

    private static void reads(Random random) {
        StringBuilder text = new StringBuilder();
        int count = 1 + random.nextInt(random.nextInt(10) == 0 ? 17 : 4);
        for (int i = 0; i < count; i++) {
            text.append(i == 0 ? "" : ";").append(statement(random));
        }
        for (int i = random.nextInt(3); i > 0; i--) {
            int at = random.nextInt(text.length());
            int how = random.nextInt(3);
            char sign = "nsbd ;0123456789sizeforcedwthnx".charAt(random.nextInt(31));
            if (how == 0) {
                text.setCharAt(at, sign);
            } else if (how == 1) {
                text.insert(at, sign);
            } else if (text.length() > 1) {
                text.setLength(at + 1);
            }
        }
        if (text.length() > 200) {
            text.setLength(200);
        }
        TimberHouse x = new TimberHouse();
        long want = fault(text.toString());
        Check.read(x, 401, text.toString(), want);
        int[][] rules = new int[4][7];
        for (int[] rule : rules) {
            java.util.Arrays.fill(rule, 1);
        }
        for (String said : want > 0 ? text.toString().split(";") : new String[0]) {
            String[] word = said.split(" ");
            rules["nsbd".indexOf(word[0])][java.util.Arrays.asList(WORDS).indexOf(word[1])] = Integer.parseInt(word[2]);
        }
        for (int kind = 0; kind < 4; kind++) {
            for (int what = 0; what < 7; what++) {
                Check.due(x, rules[kind][what], 403, kind, what);
            }
        }
    }

    private static void texts() {
        TimberHouse x = new TimberHouse();
        Check.read(x, 401, "", -1);
        Check.read(x, 401, "n", -2);
        Check.read(x, 401, "x", -1);
        Check.read(x, 401, "n size", -7);
        Check.read(x, 401, "n size ", -8);
        Check.read(x, 401, "n size 0", -8);
        Check.read(x, 401, "n size 00001", -8);
        Check.read(x, 401, "n size 0x", -8);
        Check.read(x, 401, "n size 00019", -12);
        Check.read(x, 401, "n size 12345", -12);
        Check.read(x, 401, "n size x", -8);
        Check.read(x, 401, "n sixe 1", -5);
        Check.read(x, 401, "n sidx 1", -6);
        Check.read(x, 401, "n edge 1;", -10);
        Check.read(x, 401, "n edge 7;;", -10);
        Check.read(x, 401, "n edge 7; n end 3", -10);
        Check.read(x, 401, "n edge 7 ", -9);
        Check.due(x, 1, 403, 0, 2);
        Check.read(x, 401, "n edge 0007;n edge 8;d thin 9999", 3);
        Check.due(x, 8, 403, 0, 2);
        Check.due(x, 9999, 403, 3, 6);
        Check.due(x, 0, 401, 31);
        Check.due(x, 0, 401, 127);
        Check.due(x, 0, 401, -1);
        Check.due(x, -1, 402);
        full();
    }

    private static void full() {
        TimberHouse x = new TimberHouse();
        String sixteen = "n row 2" + ";n row 2".repeat(15);
        Check.read(x, 401, sixteen, 16);
        Check.read(x, 401, sixteen + ";", -1 - sixteen.length());
        Check.read(x, 401, sixteen + ";x", -1 - sixteen.length());
        room();
    }

    private static void room() {
        TimberHouse x = new TimberHouse();
        Check.write(x, 401, "n".repeat(200));
        Check.due(x, 0, 401, 'n');
        Check.due(x, -2, 402);
        Check.due(x, 1, 401, 126);
        Check.due(x, 1, 400);
        Check.due(x, -1, 402);
        Check.due(x, Check.THING, 403, 4, 0);
        Check.due(x, Check.THING, 403, 0, 7);
    }

    private static void holds(Random random) {
        TimberHouse x = new TimberHouse();
        int size = 1 + random.nextInt(random.nextBoolean() ? 60 : 9999);
        int force = 1 + random.nextInt(random.nextBoolean() ? 60 : 9999);
        Check.read(x, 401, "s size " + size + ";s force " + force, 2);
        int wet = 1 + random.nextInt(100);
        Check.due(x, 0, 404, 0, wet);
        int less = random.nextInt(101);
        Check.due(x, 0, 404, 1, less);
        int a = 1 + random.nextInt(1000);
        int b = 1 + random.nextInt(1000);
        int angle = random.nextInt(91);
        long[] f = {(long) force * a * size, (long) force * b * size, (long) force * (a + b) * size / 2, 4L * force * size * size};
        int which = 0;
        for (int i = 1; i < 4; i++) {
            which = f[i] < f[which] ? i : which;
        }
        Check.due(x, which, 405, 1, a, b, angle, 1);
        Check.due(x, f[which] * (200 - angle) / 200 * wet / 100, 405, 1, a, b, angle, 0);
        int one = random.nextInt(2147483647);
        int n = random.nextInt(1001);
        Check.due(x, (long) n * one * Math.max(50, 100 - less * (n - 1)) / 100, 406, n, one);
        int load = random.nextInt(100000);
        int each = random.nextInt(3000);
        int least = -1;
        for (int k = 100; k >= 1; k--) {
            least = (long) k * each * Math.max(50, 100 - less * (k - 1)) / 100 >= load ? k : least;
        }
        Check.due(x, least, 407, load, each);
        Check.due(x, size * 7 / 10, 417, 1);
    }

    private static void patterns(Random random) {
        TimberHouse x = new TimberHouse();
        int size = 1 + random.nextInt(20);
        int[] t = new int[4];
        for (int i = 0; i < 4; i++) {
            t[i] = 1 + random.nextInt(6);
        }
        Check.read(x, 401, "b size " + size + ";b edge " + t[0] + ";b end " + t[1] + ";b side " + t[2] + ";b row " + t[3], 5);
        int w = 1 + random.nextInt(600);
        int h = 1 + random.nextInt(600);
        int n = 1 + random.nextInt(100);
        int columns = 0;
        while (2 * t[1] * size + columns * t[2] * size <= w) {
            columns++;
        }
        int rows = 0;
        while (2 * t[0] * size + rows * t[3] * size <= h) {
            rows++;
        }
        Check.due(x, columns * rows >= n ? 1 : 0, 408, 2, w, h, n);
        for (int k = 0; k < n && columns * rows >= n; k++) {
            Check.due(x, (t[1] + k % columns * t[2]) * size, 409, k, 0);
            Check.due(x, (t[0] + k / columns * t[3]) * size, 409, k, 1);
        }
        Check.due(x, columns * rows >= n ? Check.THING : Check.STATE, 409, n, 0);
    }

    private static void places(Random random) {
        TimberHouse x = new TimberHouse();
        int size = 1 + random.nextInt(9);
        int edge = 1 + random.nextInt(3);
        int end = 1 + random.nextInt(3);
        int side = 1 + random.nextInt(3);
        Check.read(x, 401, "d size " + size + ";d edge " + edge + ";d end " + end + ";d side " + side, 4);
        int w = 40 + random.nextInt(100);
        int h = 40 + random.nextInt(100);
        int count = random.nextInt(6);
        int[][] p = new int[count][2];
        for (int k = 0; k < count; k++) {
            p[k][0] = random.nextInt(8) == 0 ? random.nextInt(w + 9) : end * size + random.nextInt(Math.max(1, w - 2 * end * size + 1));
            p[k][1] = random.nextInt(8) == 0 ? random.nextInt(h + 9) : edge * size + random.nextInt(Math.max(1, h - 2 * edge * size + 1));
            Check.due(x, k + 1, 410, p[k][0], p[k][1]);
        }
        long due = 0;
        for (int a = count - 1; a >= 0; a--) {
            for (int b = count - 1; b > a; b--) {
                int far = (p[a][0] - p[b][0]) * (p[a][0] - p[b][0]) + (p[a][1] - p[b][1]) * (p[a][1] - p[b][1]);
                due = far < side * size * side * size ? 100 + 32 * a + b : due;
            }
        }
        for (int k = count - 1; k >= 0; k--) {
            boolean near = p[k][0] < end * size || w - p[k][0] < end * size || p[k][1] < edge * size || h - p[k][1] < edge * size;
            due = near ? 1 + k : due;
        }
        Check.due(x, due, 412, 3, w, h);
        Check.due(x, 0, 411);
        Check.due(x, 0, 412, 3, w, h);
    }

    private static boolean in(int[] m, int x, int y) {
        java.math.BigInteger dx = java.math.BigInteger.valueOf(m[2] - m[0]);
        java.math.BigInteger dy = java.math.BigInteger.valueOf(m[3] - m[1]);
        java.math.BigInteger px = java.math.BigInteger.valueOf(x - m[0]);
        java.math.BigInteger py = java.math.BigInteger.valueOf(y - m[1]);
        java.math.BigInteger square = dx.multiply(dx).add(dy.multiply(dy));
        java.math.BigInteger along = dx.multiply(px).add(dy.multiply(py));
        java.math.BigInteger across = dx.multiply(py).subtract(dy.multiply(px));
        java.math.BigInteger wide = java.math.BigInteger.valueOf(m[4]);
        return along.signum() >= 0 && along.compareTo(square) <= 0
            && across.multiply(across).shiftLeft(2).compareTo(wide.multiply(wide).multiply(square)) <= 0;
    }

    private static void members(Random random) {
        TimberHouse x = new TimberHouse();
        int far = random.nextBoolean() ? 30 : 10000;
        int[] m = new int[5];
        for (int i = 0; i < 4; i++) {
            m[i] = random.nextInt(2 * far + 1) - far;
        }
        m[4] = 1 + random.nextInt(far);
        if (m[0] == m[2] && m[1] == m[3]) {
            return;
        }
        Check.due(x, 0, 413, m[0], m[1], m[2], m[3], m[4]);
        for (int i = 0; i < 10; i++) {
            int px = random.nextInt(2 * far + 1) - far;
            int py = random.nextInt(2 * far + 1) - far;
            Check.due(x, in(m, px, py) ? 1 : 0, 414, 0, px, py);
        }
        Check.due(x, 1, 414, 0, m[0], m[1]);
        Check.due(x, 1, 414, 0, m[2], m[3]);
        int px = random.nextInt(2 * far + 1) - far;
        int py = random.nextInt(2 * far + 1) - far;
        int w = random.nextInt(1001);
        int h = random.nextInt(1001);
        int step = 10 + random.nextInt(random.nextBoolean() ? 30 : 991);
        int teeth = 0;
        for (int i = 0; step * i <= w; i++) {
            for (int j = 0; step * j <= h; j++) {
                teeth += in(m, px + step * i, py + step * j) ? 1 : 0;
            }
        }
        Check.due(x, teeth, 415, 0, px, py, w, h, step);
    }

    private static void edges() {
        TimberHouse x = new TimberHouse();
        Check.due(x, Check.THING, 404, 2, -1);
        Check.due(x, Check.NUMBER, 404, 0, 0);
        Check.due(x, Check.NUMBER, 404, 0, 101);
        Check.due(x, Check.NUMBER, 404, 1, -1);
        Check.due(x, Check.NUMBER, 404, 1, 101);
        Check.due(x, 35, 406, 2, 18);
        Check.due(x, Check.THING, 405, 4, 0, 0, 0, 0);
        Check.due(x, Check.THING, 405, 0, 0, 0, 0, 2);
        Check.due(x, Check.NUMBER, 405, 0, 0, 1, 0, 0);
        Check.due(x, Check.NUMBER, 405, 0, 1, 1001, 0, 0);
        Check.due(x, Check.NUMBER, 405, 0, 1, 1, 91, 0);
        Check.due(x, Check.NUMBER, 405, 0, 1, 1, -1, 0);
        Check.due(x, 0, 405, 0, 1, 1, 0, 1);
        Check.due(x, 0, 405, 0, 1, 1, 90, 0);
        Check.due(x, Check.NUMBER, 406, 1001, 0);
        Check.due(x, Check.NUMBER, 406, -1, 0);
        Check.due(x, Check.NUMBER, 406, 0, -1);
        Check.due(x, 0, 406, 0, 2147483647);
        Check.due(x, 1000L * 2147483647 * 50 / 100, 406, 1000, 2147483647);
        Check.due(x, Check.NUMBER, 407, -1, 0);
        Check.due(x, Check.NUMBER, 407, 0, -1);
        Check.due(x, 1, 407, 0, 0);
        Check.due(x, -1, 407, 1, 0);
        Check.due(x, 100, 407, 50, 1);
        Check.due(x, -1, 407, 51, 1);
        Check.due(x, Check.STATE, 409, -1, -1);
        Check.due(x, Check.THING, 408, -1, 0, 0, 0);
        Check.due(x, Check.NUMBER, 408, 0, 0, 1, 1);
        Check.due(x, Check.NUMBER, 408, 0, 1, 100001, 1);
        Check.due(x, Check.NUMBER, 408, 0, 1, 1, 101);
        Check.due(x, Check.NUMBER, 408, 0, 1, 1, 0);
        Check.due(x, 0, 408, 0, 1, 2, 1);
        Check.due(x, Check.STATE, 409, 0, 0);
        Check.due(x, 1, 408, 0, 2, 2, 1);
        Check.due(x, 0, 408, 0, 2, 2, 2);
        Check.due(x, 1, 409, 0, 0);
        Check.due(x, Check.THING, 409, 0, 2);
        Check.due(x, 1, 408, 0, 100000, 100000, 100);
        Check.due(x, 100, 409, 99, 0);
        Check.read(x, 401, "n size 9999;n end 9999;n edge 9999;n thin 9999;b size 51;d size 3", 6);
        Check.due(x, 100, 409, 99, 0);
        Check.due(x, 0, 408, 0, 100000, 100000, 1);
        Check.due(x, 6999, 417, 0);
        Check.due(x, 0, 416, 0, 9999 * 9999 - 1);
        Check.due(x, 1, 416, 0, 9999 * 9999);
        Check.due(x, Check.NUMBER, 416, 0, -1);
        Check.due(x, Check.THING, 416, 4, -1);
        Check.due(x, 0, 416, 1, 0);
        Check.due(x, 0, 417, 1);
        Check.due(x, 61, 417, 2);
        Check.due(x, 3, 417, 3);
        Check.due(x, Check.THING, 417, 4);
        Check.read(x, 401, "n size 50", 1);
        Check.due(x, 0, 417, 0);
        Check.read(x, 401, "n size 51", 1);
        Check.due(x, 35, 417, 0);
        Check.due(x, Check.NUMBER, 410, -1, 0);
        Check.due(x, Check.NUMBER, 410, 0, 100001);
        for (int i = 1; i <= 32; i++) {
            Check.due(x, i, 410, 100000, 100000);
        }
        Check.due(x, Check.STATE, 410, 0, 0);
        Check.due(x, Check.NUMBER, 410, 0, -1);
        Check.due(x, 1, 412, 1, 100000, 100000);
        rest(x);
    }

    private static void rest(TimberHouse x) {
        Check.due(x, Check.THING, 412, 4, 0, 0);
        Check.due(x, Check.NUMBER, 412, 0, 0, 1);
        Check.due(x, Check.NUMBER, 412, 0, 1, 100001);
        Check.due(x, Check.THING, 414, 0, 99999, 0);
        Check.due(x, Check.NUMBER, 413, 10001, 0, 0, 0, 1);
        Check.due(x, Check.NUMBER, 413, 5, 5, 5, 5, 1);
        Check.due(x, Check.NUMBER, 413, 5, 5, 5, 6, 0);
        Check.due(x, Check.NUMBER, 413, 5, 5, 5, 6, 10001);
        for (int i = 0; i < 6; i++) {
            Check.due(x, i, 413, -10000, -10000, 10000, 10000, 10000);
        }
        Check.due(x, Check.STATE, 413, 0, 0, 1, 1, 1);
        Check.due(x, Check.NUMBER, 413, 0, 0, 0, 0, 1);
        Check.due(x, Check.NUMBER, 414, 0, 10001, 0);
        Check.due(x, Check.THING, 415, 6, 0, 0, 0, 0, 0);
        Check.due(x, Check.NUMBER, 415, 0, 10001, 0, 0, 0, 10);
        Check.due(x, Check.NUMBER, 415, 0, 0, 0, 1001, 0, 10);
        Check.due(x, Check.NUMBER, 415, 0, 0, 0, 0, -1, 10);
        Check.due(x, Check.NUMBER, 415, 0, 0, 0, 0, 0, 9);
        Check.due(x, Check.NUMBER, 415, 0, 0, 0, 0, 0, 1001);
        Check.due(x, 1, 415, 0, 0, 0, 0, 0, 10);
        Check.due(x, 0, 415, 0, 10000, -10000, 1000, 1000, 10);
        // An odd WIDE of 5 reaches two and a half: 2 is in it, 3 is not.
        Check.due(x, 1, 400);
        Check.due(x, 0, 413, 0, 0, 10, 0, 5);
        Check.due(x, 1, 414, 0, 10, 2);
        Check.due(x, 0, 414, 0, 10, 3);
        Check.due(x, 0, 414, 0, 11, 0);
        Check.due(x, 0, 414, 0, -1, 0);
        Check.due(x, 100, 406, 1, 100);
        Check.due(x, 98 * 2, 406, 2, 100);
    }
}
