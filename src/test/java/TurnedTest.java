import java.util.ArrayList;
import java.util.List;
import java.util.Random;

/** TURNED against the document's words taken place by place, and the edges that it names. */
public final class TurnedTest {
    public static void main(String[] args) {
        Random random = new Random(10);
        for (int i = 0; i < 300; i++) {
            compare(random);
        }
        profiles();
        rings();
        fractions();
        speeds();
        edges();
        Check.end();
    }

    private static int root(int v) {
        int s = 0;
        while ((s + 1) * (s + 1) <= v) {
            s++;
        }
        return s;
    }

    /** Radii at all places, as they are told to a new PROFILE. */
    private static int[] profile(TimberHouse x, Random random) {
        List<Integer> radii = new ArrayList<>();
        int r = random.nextInt(40);
        Check.due(x, 0, 301, r);
        radii.add(r);
        int ways = 0;
        int most = 1 + random.nextInt(4);
        for (int i = 0; i < most && radii.size() < 64; i++) {
            int from = radii.size() - 1;
            int to = from + 1 + random.nextInt(Math.min(12, 64 - from));
            if (random.nextBoolean()) {
                int next = random.nextInt(40);
                ways++;
                Check.due(x, ways, 302, to, next);
                for (int at = from + 1; at <= to; at++) {
                    radii.add(radii.get(from) + Math.floorDiv((at - from) * (next - radii.get(from)), to - from));
                }
            } else {
                ways += arc(x, radii, from, to, random) ? 1 : 0;
            }
        }
        if (ways == 0) {
            Check.due(x, 1, 302, radii.size(), 7);
            radii.add(7);
            ways = 1;
        }
        return radii.stream().mapToInt(v -> v).toArray();
    }

    /** Arcs around the middle of both places end as high as they begin. */
    private static boolean arc(TimberHouse x, List<Integer> radii, int from, int to, Random random) {
        int c = (from + to) / 2;
        int h = random.nextInt(60) - 10;
        boolean upper = random.nextBoolean();
        int r0 = radii.get(from);
        int next = random.nextInt(6) == 0 ? random.nextInt(40) : r0;
        int q = (from - c) * (from - c) + (r0 - h) * (r0 - h);
        boolean right = q == (to - c) * (to - c) + (next - h) * (next - h)
            && (upper ? r0 >= h && next >= h : r0 <= h && next <= h);
        Check.due(x, right ? 1 : 0, 303, to, next, c, h, upper ? 3 : 0);
        for (int at = from + 1; at <= to && right; at++) {
            int s = root(q - (at - c) * (at - c));
            radii.add(Math.max(0, Math.min(500, upper ? h + s : h - s)));
        }
        return right;
    }

    private static void compare(Random random) {
        TimberHouse x = new TimberHouse();
        int[] r = profile(x, random);
        Check.due(x, 0, 304);
        int[] other = profile(x, random);
        Check.due(x, 1, 304);
        int length = r.length - 1;
        int blank = 3;
        for (int at = 0; at <= length; at++) {
            Check.due(x, r[at], 305, 0, at);
            blank = Math.max(blank, r[at] + 3);
        }
        Check.due(x, Check.THING, 305, 0, length + 1);
        Check.due(x, length, 306, 0, 0);
        Check.due(x, blank, 306, 0, 1);
        int difference = 0;
        for (int at = 0; at <= Math.min(length, other.length - 1); at++) {
            difference = Math.max(difference, Math.abs(r[at] - other[at]));
        }
        Check.due(x, difference, 315, 0, 1);
        Check.due(x, difference, 315, 1, 0);
        int nose = random.nextInt(13);
        Check.due(x, 0, 307, nose);
        tool(x, r, blank, nose, random);
        steadies(x, r, 1 + random.nextInt(20));
        long low = 0;
        long high = 0;
        for (int at = 0; at < length; at++) {
            low += (long) Math.min(r[at], r[at + 1]) * Math.min(r[at], r[at + 1]);
            high += (long) Math.max(r[at], r[at + 1]) * Math.max(r[at], r[at + 1]);
        }
        Check.due(x, low * 314159 / 100000, 313, 0, 0);
        Check.due(x, high * 314160 / 100000 + 1, 313, 0, -9);
        int wall = 1 + random.nextInt(10);
        int bar = random.nextInt(20);
        int hollow = 0;
        while (hollow <= length && r[length - hollow] - wall >= bar) {
            hollow++;
        }
        Check.due(x, hollow, 314, 0, wall, bar);
    }

    private static void tool(TimberHouse x, int[] r, int blank, int nose, Random random) {
        int[] lift = new int[r.length];
        int[] reached = new int[r.length];
        int left = 0;
        for (int at = 0; at < r.length; at++) {
            for (int d = -nose; d <= nose; d++) {
                if (at + d >= 0 && at + d < r.length) {
                    lift[at] = Math.max(lift[at], r[at + d] + root(nose * nose - d * d));
                }
            }
        }
        for (int at = 0; at < r.length; at++) {
            reached[at] = Integer.MAX_VALUE;
            for (int d = -nose; d <= nose; d++) {
                if (at + d >= 0 && at + d < r.length) {
                    reached[at] = Math.min(reached[at], lift[at + d] - root(nose * nose - d * d));
                }
            }
            left += reached[at] > r[at] ? 1 : 0;
            Check.due(x, reached[at], 308, 0, 0, at);
        }
        Check.due(x, left, 309, 0, 0);
        int depth = 1 + random.nextInt(12);
        int skin = random.nextInt(5);
        int passes = 0;
        for (int k = 1; k <= 60; k++) {
            int cut = 0;
            for (int at = 0; at < r.length; at++) {
                cut += Math.min(reached[at] + skin, blank) < blank - (k - 1) * depth ? 1 : 0;
            }
            passes += cut > 0 ? 1 : 0;
            Check.due(x, cut, 311, 0, 0, depth, skin, k);
        }
        Check.due(x, passes, 310, 0, 0, depth, skin);
        Check.due(x, 0, 311, 0, 0, depth, skin, 2147483647);
    }

    private static void steadies(TimberHouse x, int[] r, int span) {
        int length = r.length - 1;
        int held = 0;
        int k = 0;
        while (held < length) {
            int next = -1;
            for (int q = held + 1; q <= length; q++) {
                int least = Integer.MAX_VALUE;
                for (int at = held; at <= q; at++) {
                    least = Math.min(least, r[at]);
                }
                next = (q - held) * span <= least ? q : next;
            }
            held = next < 0 ? held + 1 : next;
            Check.due(x, held < length ? held : Check.STATE, 312, 0, span, k);
            k++;
        }
        Check.due(x, Check.STATE, 312, 0, span, 2147483647);
    }

    private static void profiles() {
        TimberHouse x = new TimberHouse();
        Check.due(x, Check.NUMBER, 301, 501);
        Check.due(x, Check.NUMBER, 301, -1);
        Check.due(x, Check.NUMBER, 302, 0, 5);
        Check.due(x, Check.NUMBER, 302, 65, 5);
        Check.due(x, Check.NUMBER, 302, 5, 501);
        Check.due(x, Check.STATE, 302, 64, 500);
        Check.due(x, Check.NUMBER, 303, 5, 5, 301, 0, 0);
        Check.due(x, Check.NUMBER, 303, 5, 5, -201, 0, 0);
        Check.due(x, Check.NUMBER, 303, 5, 5, 0, -1001, 0);
        Check.due(x, Check.NUMBER, 303, 5, 5, 0, 1501, 0);
        Check.due(x, Check.STATE, 303, 5, 5, 300, 1500, 0);
        Check.due(x, Check.STATE, 304);
        Check.due(x, 0, 301, 500);
        Check.due(x, Check.STATE, 304);
        Check.due(x, 1, 302, 10, 0);
        Check.due(x, Check.NUMBER, 302, 10, 0);
        Check.due(x, Check.NUMBER, 303, 10, 0, 15, 0, 1);
        Check.due(x, 1, 303, 20, 0, 15, 0, 1);
        Check.due(x, 0, 303, 30, 1, 25, 0, 1);
        Check.due(x, 0, 303, 30, 0, 25, 1, 1);
        Check.due(x, 1, 303, 30, 0, 25, 0, 0);
        Check.due(x, 0, 304);
        Check.due(x, 3, 306, 0, 2);
        Check.due(x, 5, 305, 0, 15);
        Check.due(x, 0, 305, 0, 25);
        Check.due(x, 4, 302, 64, 500);
        Check.due(x, Check.NUMBER, 302, 65, 0);
        Check.due(x, 1, 304);
        Check.due(x, 30, 306, 0, 0);
        Check.due(x, 64, 306, 1, 0);
        Check.due(x, 0, 301, 490);
        Check.due(x, Check.STATE, 304);
        Check.due(x, 1, 303, 40, 490, 20, 490, 1);
        Check.due(x, 2, 304);
        Check.due(x, 500, 305, 2, 20);
        for (int i = 3; i < 6; i++) {
            Check.due(x, i, 304);
        }
        Check.due(x, Check.STATE, 304);
    }

    private static void rings() {
        TimberHouse x = new TimberHouse();
        Check.due(x, Check.THING, 317, 0, 0, 0);
        for (int i = 0; i < 6; i++) {
            Check.due(x, i, 316);
        }
        Check.due(x, Check.STATE, 316);
        Check.due(x, 0, 320, 0);
        Check.due(x, 360, 319, 0, 0);
        Check.due(x, 1, 319, 0, 1);
        for (int i = 1; i <= 8; i++) {
            Check.due(x, 0, 320, 0);
            Check.due(x, i, 317, 0, 45, 1);
        }
        Check.due(x, 1, 320, 0);
        Check.due(x, 0, 319, 0, 0);
        Check.due(x, 1, 319, 0, 1);
        Check.due(x, 9, 317, 0, 1, 12);
        Check.due(x, 0, 320, 0);
        Check.due(x, -1, 319, 0, 0);
        Check.due(x, 12, 319, 0, 1);
        Check.due(x, 45, 318, 0, 0, 0);
        Check.due(x, 2, 318, 0, 0, 1);
        Check.due(x, 1, 318, 0, 8, 0);
        Check.due(x, 24, 318, 0, 8, 1);
        Check.due(x, Check.THING, 318, 0, 9, 0);
        Check.due(x, Check.THING, 318, 0, 0, 2);
        Check.due(x, Check.THING, 319, 6, 0);
        Check.due(x, Check.THING, 319, 0, -1);
        Check.due(x, Check.THING, 320, 6);
        Check.due(x, Check.NUMBER, 317, 0, 0, 1);
        Check.due(x, Check.NUMBER, 317, 0, 3601, 1);
        Check.due(x, Check.NUMBER, 317, 0, 1, 13);
        Check.due(x, Check.NUMBER, 317, 0, 1, 0);
        for (int i = 1; i <= 16; i++) {
            Check.due(x, i, 317, 1, 3600, 11);
        }
        Check.due(x, Check.STATE, 317, 1, 1, 1);
        Check.due(x, Check.NUMBER, 317, 1, 0, 1);
        Check.due(x, (360 * 11 - 16 * 3600), 319, 1, 0);
        Check.due(x, 11, 319, 1, 1);
        Check.due(x, 1800, 318, 1, 15, 0);
        Check.due(x, 11, 318, 1, 15, 1);
    }

    private static void fractions() {
        TimberHouse x = new TimberHouse();
        Check.due(x, 0, 321, 1000, 0, 0);
        Check.due(x, 1, 321, 1000, 0, 1);
        Check.due(x, 90, 321, 4, 1, 0);
        Check.due(x, 1, 321, 4, 1, 1);
        Check.due(x, 9, 321, 1000, 25, 0);
        Check.due(x, Check.THING, 321, 0, 0, 2);
        Check.due(x, Check.NUMBER, 321, 0, 0, 0);
        Check.due(x, Check.NUMBER, 321, 1001, 0, 0);
        Check.due(x, Check.NUMBER, 321, 5, 5, 0);
        Check.due(x, Check.NUMBER, 321, 5, -1, 0);
        Check.due(x, Check.THING, 323, -1, 2);
        Check.due(x, Check.NUMBER, 323, -1, 0);
        Check.due(x, Check.NUMBER, 323, 100001, 0);
        Check.due(x, Check.STATE, 323, 0, 0);
        Check.due(x, Check.NUMBER, 322, 0, 1);
        Check.due(x, Check.NUMBER, 322, 1, 1001);
        Check.due(x, Check.STATE, 323, 0, 0);
        Check.due(x, 0, 322, 1000, 6);
        Check.due(x, 0, 323, 0, 0);
        Check.due(x, 1, 323, 0, 1);
        Check.due(x, 50000000, 323, 100000, 0);
        Check.due(x, 3, 323, 100000, 1);
        Check.due(x, 1, 300);
        Check.due(x, Check.STATE, 323, 0, 0);
    }

    private static void speeds() {
        TimberHouse x = new TimberHouse();
        Check.due(x, 0, 301, 10);
        Check.due(x, 1, 302, 20, 30);
        Check.due(x, 0, 304);
        Check.due(x, Check.THING, 325, 1, 0);
        Check.due(x, Check.THING, 325, 0, 21);
        Check.due(x, Check.STATE, 325, 0, 20);
        Check.due(x, Check.NUMBER, 324, 0, 1);
        Check.due(x, Check.NUMBER, 324, 501, 1);
        Check.due(x, Check.NUMBER, 324, 1, 0);
        Check.due(x, Check.NUMBER, 324, 1, 10001);
        Check.due(x, 1, 324, 10, 900);
        Check.due(x, Check.NUMBER, 324, 10, 900);
        Check.due(x, 2, 324, 20, 600);
        Check.due(x, 900, 325, 0, 0);
        Check.due(x, 600, 325, 0, 1);
        Check.due(x, 600, 325, 0, 10);
        Check.due(x, 600, 325, 0, 20);
        for (int i = 3; i <= 8; i++) {
            Check.due(x, i, 324, 20 + i, i);
        }
        Check.due(x, Check.STATE, 324, 500, 10000);
        Check.due(x, Check.NUMBER, 324, 28, 10000);
        Check.due(x, 8, 325, 0, 20);
        Check.due(x, 3, 325, 0, 11);
    }

    private static void edges() {
        TimberHouse x = new TimberHouse();
        Check.due(x, Check.THING, 305, 0, 0);
        Check.due(x, Check.THING, 306, 0, 0);
        Check.due(x, Check.THING, 308, 0, 0, 0);
        Check.due(x, Check.THING, 310, 0, 0, 0, 0);
        Check.due(x, Check.THING, 311, 0, 0, 0, 0, 0);
        Check.due(x, Check.THING, 312, 0, 0, 0);
        Check.due(x, Check.THING, 313, 0, 0);
        Check.due(x, Check.THING, 314, 0, 0, 0);
        Check.due(x, Check.NUMBER, 307, 13);
        Check.due(x, Check.NUMBER, 307, -1);
        for (int i = 0; i < 6; i++) {
            Check.due(x, i, 307, 12);
        }
        Check.due(x, Check.STATE, 307, 12);
        Check.due(x, Check.NUMBER, 307, 13);
        Check.due(x, 0, 301, 0);
        Check.due(x, 1, 302, 1, 0);
        Check.due(x, 0, 304);
        Check.due(x, Check.THING, 306, 0, 3);
        Check.due(x, Check.THING, 308, 0, 6, 0);
        Check.due(x, Check.THING, 308, 0, 0, 2);
        Check.due(x, Check.THING, 309, 1, 0);
        Check.due(x, Check.NUMBER, 310, 0, 0, 0, 0);
        Check.due(x, Check.NUMBER, 310, 0, 0, 101, 0);
        Check.due(x, Check.NUMBER, 310, 0, 0, 1, 51);
        Check.due(x, Check.NUMBER, 310, 0, 0, 1, -1);
        Check.due(x, 0, 310, 0, 0, 1, 50);
        Check.due(x, 3, 310, 0, 0, 1, 0);
        Check.due(x, 1, 310, 0, 0, 100, 2);
        Check.due(x, Check.NUMBER, 311, 0, 0, 1, 0, 0);
        Check.due(x, Check.NUMBER, 312, 0, 0, 0);
        Check.due(x, Check.NUMBER, 312, 0, 501, 0);
        Check.due(x, Check.NUMBER, 312, 0, 1, -1);
        Check.due(x, Check.STATE, 312, 0, 1, 0);
        Check.due(x, 0, 313, 0, 0);
        Check.due(x, 1, 313, 0, 1);
        Check.due(x, Check.NUMBER, 314, 0, 0, 0);
        Check.due(x, Check.NUMBER, 314, 0, 101, 0);
        Check.due(x, Check.NUMBER, 314, 0, 1, 101);
        Check.due(x, Check.THING, 315, 0, 1);
    }
}
