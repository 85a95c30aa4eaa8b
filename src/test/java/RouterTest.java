import java.util.ArrayList;
import java.util.List;
import java.util.Random;
import java.util.regex.Matcher;
import java.util.regex.Pattern;

/** ROUTER against a grammar told as a pattern, against a board swept cell by cell, and the edges. */
public final class RouterTest {
    private static final String NUMBER = "[0-9]{1,3}";
    private static final String GOAL = "(?: *X" + NUMBER + "(?: *Y" + NUMBER + ")?(?: *Z" + NUMBER + ")?| *Y" + NUMBER
        + "(?: *Z" + NUMBER + ")?| *Z" + NUMBER + ")";
    private static final Pattern TEXT = Pattern.compile("(?: *(?:T[0-3]|G[01]" + GOAL + ") *;){1,32}");
    private static final Pattern TOLD = Pattern.compile("([XYZ])([0-9]{1,3})");
    private static int side;
    private static int[][] height;
    private static int[][] target;
    private static boolean[][] kept;
    private static final int[] radius = new int[4];
    private static final int[] feed = new int[4];

    public static void main(String[] args) {
        Random random = new Random(12);
        for (int i = 0; i < 5000; i++) {
            reads(random);
        }
        texts();
        for (int i = 0; i < 600; i++) {
            sweeps(random);
        }
        edges();
        Check.end();
    }

    private static long fault(String text, int side) {
        int fault = -1;
        for (int end = 1; end <= text.length() && fault < 0; end++) {
            Matcher m = TEXT.matcher(text.substring(0, end));
            fault = m.matches() || m.hitEnd() ? -1 : end - 1;
        }
        if (fault < 0 && !TEXT.matcher(text).matches()) {
            fault = text.length();
        }
        Matcher numbers = TOLD.matcher(fault < 0 ? text : text.substring(0, fault));
        while (numbers.find()) {
            if (Integer.parseInt(numbers.group(2)) > (numbers.group(1).equals("Z") ? 100 : side - 1)) {
                return -1 - numbers.start(2);
            }
        }
        return fault < 0 ? text.chars().filter(c -> c == ';').count() : -1 - fault;
    }

    private static String spaces(Random random) {
        return " ".repeat(random.nextInt(8) == 0 ? 1 + random.nextInt(2) : 0);
    }

    private static String statement(Random random, int side) {
        if (random.nextInt(6) == 0) {
            return spaces(random) + "T" + random.nextInt(4) + spaces(random) + ";";
        }
        int told = 1 + random.nextInt(7);
        String s = spaces(random) + "G" + random.nextInt(2);
        s += (told & 1) == 0 ? "" : spaces(random) + "X" + random.nextInt(side);
        s += (told & 2) == 0 ? "" : spaces(random) + "Y" + random.nextInt(side);
        s += (told & 4) == 0 ? "" : spaces(random) + "Z" + random.nextInt(101);
        return s + spaces(random) + ";";
    }

    private static void reads(Random random) {
        int side = 2 + random.nextInt(19);
        StringBuilder text = new StringBuilder();
        int count = 1 + random.nextInt(random.nextInt(8) == 0 ? 36 : 4);
        for (int i = 0; i < count; i++) {
            text.append(count > 20 ? "T0;" : statement(random, side));
        }
        for (int i = random.nextInt(3); i > 0; i--) {
            int at = random.nextInt(text.length());
            int how = random.nextInt(4);
            char sign = "TGXYZ ;0123456789 x".charAt(random.nextInt(19));
            if (how == 0) {
                text.setCharAt(at, sign);
            } else if (how == 1) {
                text.insert(at, sign);
            } else if (how == 2) {
                text.append(sign);
            } else {
                text.setLength(at + 1);
            }
        }
        if (text.length() > 240) {
            text.setLength(240);
        }
        TimberHouse x = new TimberHouse();
        Check.due(x, 1, 600, side);
        long want = fault(text.toString(), side);
        Check.read(x, 604, text.toString(), want);
        if (want < 0) {
            Check.due(x, Check.STATE, 606);
        }
    }

    private static void texts() {
        TimberHouse x = new TimberHouse();
        Check.read(x, 604, "", -1);
        Check.read(x, 604, "  ", -3);
        Check.read(x, 604, "T", -2);
        Check.read(x, 604, "T4;", -2);
        Check.read(x, 604, "T 1;", -2);
        Check.read(x, 604, "T1", -3);
        Check.read(x, 604, "T1 ", -4);
        Check.read(x, 604, "T1;", 1);
        Check.read(x, 604, "T1; ", -5);
        Check.read(x, 604, "T1;;", -4);
        Check.read(x, 604, "G0;", -3);
        Check.read(x, 604, "G2X1;", -2);
        Check.read(x, 604, "G0X19;", 1);
        Check.read(x, 604, "G0X20;", -4);
        Check.read(x, 604, "G0X0199;", -4 - 3);
        Check.read(x, 604, "G0X2099;", -4);
        Check.read(x, 604, "G0X0209;", -4);
        Check.read(x, 604, "G0Y020;", -4);
        Check.read(x, 604, "G0Z100;", 1);
        Check.read(x, 604, "G0Z101;", -4);
        Check.read(x, 604, "G0Z1000;", -7);
        Check.read(x, 604, "G0Y1X1;", -5);
        Check.read(x, 604, "G0X1X1;", -5);
        Check.read(x, 604, "G0X 1;", -4);
        Check.read(x, 604, " G0 X1 Y1 Z1 ; T0 ;", 2);
        full();
        room();
    }

    private static void full() {
        TimberHouse x = new TimberHouse();
        String full = "T0;".repeat(32);
        Check.read(x, 604, full, 32);
        Check.read(x, 604, full + " ", -97);
        Check.read(x, 604, full + "T", -97);
        Check.due(x, 0, 606);
        Check.due(x, 320, 607, 0);
        Check.due(x, 32, 607, 1);
    }

    private static void room() {
        TimberHouse x = new TimberHouse();
        Check.due(x, 0, 604, 31);
        Check.due(x, 0, 604, 127);
        Check.write(x, 604, "T".repeat(240));
        Check.due(x, 0, 604, 'T');
        Check.due(x, -2, 605);
        Check.write(x, 604, "T1;");
        Check.due(x, 1, 600, 5);
        Check.due(x, -1, 605);
        Check.due(x, Check.STATE, 606);
    }

    private static List<int[]> disc(int x0, int y0, int tool) {
        List<int[]> cells = new ArrayList<>();
        for (int y = 0; y < side; y++) {
            for (int x = 0; x < side; x++) {
                if ((x - x0) * (x - x0) + (y - y0) * (y - y0) <= radius[tool] * radius[tool]) {
                    cells.add(new int[] {x, y});
                }
            }
        }
        return cells;
    }

    private static void sweeps(Random random) {
        TimberHouse x = new TimberHouse();
        side = 2 + random.nextInt(19);
        Check.due(x, 1, 600, side);
        height = new int[side][side];
        target = new int[side][side];
        kept = new boolean[side][side];
        for (int y = 0; y < side; y++) {
            java.util.Arrays.fill(height[y], 100);
            java.util.Arrays.fill(target[y], 100);
        }
        java.util.Arrays.fill(radius, 0);
        java.util.Arrays.fill(feed, 1);
        for (int i = random.nextInt(5); i > 0; i--) {
            int t = random.nextInt(4);
            radius[t] = random.nextInt(7);
            feed[t] = 1 + random.nextInt(10);
            Check.due(x, 0, 603, t, radius[t], feed[t]);
        }
        for (int i = random.nextInt(6); i > 0; i--) {
            int x0 = random.nextInt(side);
            int y0 = random.nextInt(side);
            int x1 = x0 + random.nextInt(side - x0);
            int y1 = y0 + random.nextInt(side - y0);
            boolean keeps = random.nextInt(4) == 0;
            int v = random.nextInt(101);
            boolean on = random.nextInt(3) > 0;
            Check.due(x, 0, keeps ? 602 : 601, x0, y0, x1, y1, keeps ? (on ? 4 : 0) : v);
            for (int cy = y0; cy <= y1; cy++) {
                for (int cx = x0; cx <= x1; cx++) {
                    if (keeps) {
                        kept[cy][cx] = on;
                    } else {
                        target[cy][cx] = v;
                    }
                }
            }
        }
        for (int times = 0; times < 3 && Check.left(x) > 220; times++) {
            StringBuilder text = new StringBuilder();
            List<String> program = new ArrayList<>();
            for (int i = 1 + random.nextInt(6); i > 0; i--) {
                String s = statement(random, side);
                text.append(s);
                program.add(s.replace(" ", ""));
            }
            Check.read(x, 604, text.toString(), program.size());
            runs(x, program);
            looks(x, random);
        }
        Check.due(x, 0, 612);
        Check.due(x, 100, 608, 0, 0, 0);
        Check.due(x, 0, 609, 1);
    }

    private static void runs(TimberHouse x, List<String> program) {
        int[] at = {0, 0, 100};
        int tool = 0;
        int[] about = new int[6];
        int end = 0;
        for (int n = 0; n < program.size() && end == 0; n++) {
            String s = program.get(n);
            if (s.charAt(0) == 'T') {
                tool = s.charAt(1) - '0';
                about[0] += 10;
                about[1]++;
                continue;
            }
            boolean cuts = s.charAt(1) == '1';
            int[] from = at.clone();
            int[] to = at.clone();
            Matcher m = TOLD.matcher(s);
            while (m.find()) {
                to["XYZ".indexOf(m.group(1))] = Integer.parseInt(m.group(2));
            }
            int steps = 0;
            for (int a = 0; a < 3; a++) {
                steps = Math.max(steps, Math.abs(to[a] - from[a]));
            }
            for (int i = 1; i <= steps && end == 0; i++) {
                for (int a = 0; a < 3; a++) {
                    at[a] = from[a] + Math.floorDiv(2 * (to[a] - from[a]) * i + steps, 2 * steps);
                }
                int high = 0;
                boolean bars = false;
                for (int[] c : disc(at[0], at[1], tool)) {
                    high += height[c[1]][c[0]] > at[2] ? 1 : 0;
                    bars |= height[c[1]][c[0]] > at[2] && kept[c[1]][c[0]];
                }
                end = !cuts && high > 0 ? 1 : cuts && bars ? 2 : 0;
                if (end == 0) {
                    about[0] += cuts ? feed[tool] : 1;
                    about[5] += high;
                    for (int[] c : disc(at[0], at[1], tool)) {
                        height[c[1]][c[0]] = Math.min(height[c[1]][c[0]], cuts ? at[2] : 100);
                    }
                }
            }
            about[1] += end == 0 ? 1 : 0;
        }
        System.arraycopy(at, 0, about, 2, 3);
        Check.due(x, end, 606);
        for (int what = 0; what < 6; what++) {
            Check.due(x, about[what], 607, what);
        }
    }

    private static void looks(TimberHouse x, Random random) {
        int[] check = {0, 0, -1, -1};
        for (int cy = 0; cy < side; cy++) {
            for (int cx = 0; cx < side; cx++) {
                if (random.nextInt(side * side) < 20) {
                    Check.due(x, height[cy][cx], 608, cx, cy, 0);
                    Check.due(x, target[cy][cx], 608, cx, cy, 1);
                    Check.due(x, kept[cy][cx] ? 1 : 0, 608, cx, cy, 2);
                }
                for (int deep = 0; deep < 2; deep++) {
                    if (deep == 0 ? height[cy][cx] > target[cy][cx] : height[cy][cx] < target[cy][cx]) {
                        check[deep]++;
                        check[2 + deep] = check[2 + deep] < 0 ? side * cy + cx : check[2 + deep];
                    }
                }
            }
        }
        for (int what = 0; what < 4; what++) {
            Check.due(x, check[what], 609, what);
        }
        for (int tool = 0; tool < 4; tool++) {
            boolean[][] reached = new boolean[side][side];
            for (int cy = 0; cy < side; cy++) {
                for (int cx = 0; cx < side; cx++) {
                    int highest = 0;
                    for (int[] c : disc(cx, cy, tool)) {
                        highest = Math.max(highest, kept[c[1]][c[0]] ? 999 : target[c[1]][c[0]]);
                    }
                    for (int[] c : disc(cx, cy, tool)) {
                        reached[c[1]][c[0]] |= height[c[1]][c[0]] > target[c[1]][c[0]] && target[c[1]][c[0]] >= highest;
                    }
                }
            }
            int count = 0;
            for (boolean[] row : reached) {
                for (boolean r : row) {
                    count += r ? 1 : 0;
                }
            }
            Check.due(x, count, 610, tool);
        }
        boolean[][] seen = new boolean[side][side];
        int pieces = 0;
        for (int cy = 0; cy < side; cy++) {
            for (int cx = 0; cx < side; cx++) {
                pieces += spread(seen, cx, cy) ? 1 : 0;
            }
        }
        Check.due(x, pieces, 611);
    }

    private static boolean spread(boolean[][] seen, int cx, int cy) {
        if (cx < 0 || cy < 0 || cx >= side || cy >= side || seen[cy][cx] || height[cy][cx] == 0) {
            return false;
        }
        seen[cy][cx] = true;
        spread(seen, cx + 1, cy);
        spread(seen, cx - 1, cy);
        spread(seen, cx, cy + 1);
        spread(seen, cx, cy - 1);
        return true;
    }

    private static void edges() {
        TimberHouse x = new TimberHouse();
        Check.due(x, Check.STATE, 606);
        Check.due(x, Check.THING, 607, 6);
        Check.due(x, Check.STATE, 607, 5);
        Check.due(x, Check.THING, 601, 20, 0, 0, 0, 101);
        Check.due(x, Check.THING, 601, 0, 0, 0, 20, 101);
        Check.due(x, Check.THING, 601, -1, 0, 0, 0, 0);
        Check.due(x, Check.NUMBER, 601, 5, 5, 4, 5, 0);
        Check.due(x, Check.NUMBER, 601, 5, 5, 5, 4, 0);
        Check.due(x, Check.NUMBER, 601, 5, 5, 5, 5, 101);
        Check.due(x, Check.NUMBER, 601, 5, 5, 5, 5, -1);
        Check.due(x, Check.THING, 602, 0, 20, 0, 0, 1);
        Check.due(x, Check.NUMBER, 602, 1, 0, 0, 0, 1);
        Check.due(x, Check.THING, 603, 4, 9, 99);
        Check.due(x, Check.NUMBER, 603, 0, 7, 1);
        Check.due(x, Check.NUMBER, 603, 0, 0, 0);
        Check.due(x, Check.NUMBER, 603, 0, 0, 11);
        Check.due(x, Check.THING, 608, 0, 0, 3);
        Check.due(x, Check.THING, 608, 20, 0, 0);
        Check.due(x, Check.THING, 609, 4);
        Check.due(x, Check.THING, 610, 4);
        Check.due(x, 1, 611);
        Check.due(x, -1, 609, 2);
        // A sheet parted by a groove to the ground hangs together no more.
        Check.read(x, 604, "G0X5;G1Z0;G1Y19;", 3);
        Check.due(x, 0, 606);
        Check.due(x, 2, 611);
        Check.due(x, 5 + 100 + 19, 607, 0);
        Check.due(x, 100 + 19, 607, 5);
        Check.due(x, 20, 609, 1);
        Check.due(x, 5, 609, 3);
        // The program stays behind a fault, its heights stay behind a run, and G0 crashes where wood is.
        Check.read(x, 604, "G0", -3);
        Check.due(x, 0, 606);
        Check.due(x, 0, 607, 5);
        Check.read(x, 604, "G0X5Y5Z99;G0X4;", 2);
        Check.due(x, 1, 606);
        Check.due(x, 0, 607, 1);
        Check.due(x, 99, 607, 4);
        Check.due(x, 2, 607, 0);
        Check.due(x, 3, 607, 2);
        Check.due(x, 1, 600, 1);
        Check.due(x, Check.THING, 608, 2, 0, 0);
        Check.due(x, 1, 600, 99);
        Check.due(x, 100, 608, 19, 19, 0);
        Check.due(x, Check.STATE, 607, 0);
    }
}
