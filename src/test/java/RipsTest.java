import java.util.ArrayList;
import java.util.Arrays;
import java.util.List;
import java.util.Random;

/** RIPS against all ways to cut small boards, one by one, and the edges that the document names. */
public final class RipsTest {
    private static int step;
    private static int length;
    private static int width;
    private static int margin;
    private static int bow;
    private static int stages;
    private static int way;
    private static final List<int[]> faults = new ArrayList<>();
    private static final List<int[]> pieces = new ArrayList<>();
    private static final List<boolean[][]> allows = new ArrayList<>();
    private static final List<Integer> gang = new ArrayList<>();
    private static int[] needs;
    private static long[] price;

    /** A plan: its worth, its pieces as x, y, w, h, which, and the segments it was made of (0: waste). */
    private static final class Plan {
        private long worth;
        private final List<int[]> pieces = new ArrayList<>();
        private final List<Integer> segments = new ArrayList<>();
    }

    public static void main(String[] args) {
        Random random = new Random(6);
        for (int i = 0; i < 1500; i++) {
            compare(random);
        }
        for (int seed = 0; seed < 400; seed++) {
            rounds(new Random(seed));
        }
        // Of these the rounds that are taken are not the last ones without too many, or one of several that are as good.
        for (int seed : new int[] {14369, 14768, 19050, 21666}) {
            rounds(new Random(seed));
        }
        edges();
        Check.end();
    }

    /** Prices that rise and fall by pieces that are worth as much as prices are. */
    private static void rounds(Random random) {
        TimberHouse x = new TimberHouse();
        step = 10;
        length = 1 + random.nextInt(8);
        width = 1 + random.nextInt(2);
        Check.due(x, 1, 100, width * step, length * step, step);
        clear();
        int count = 2 + random.nextInt(4);
        for (int p = 0; p < count; p++) {
            int low = 1 + random.nextInt(2);
            int[] piece = {10, low * 10, low * 10 + 10 * random.nextInt(2), 50 * (1 + random.nextInt(8))};
            pieces.add(piece);
            allows.add(new boolean[2][8]);
            Check.due(x, p, 102, piece[0], piece[1], piece[2], piece[3]);
        }
        for (int p = 0; p < count; p++) {
            if (random.nextInt(4) > 0) {
                needs[p] = random.nextInt(4);
                Check.due(x, 1, 105, p, needs[p]);
            }
        }
        int kinds = random.nextInt(4);
        for (int kind = 0; kind < kinds; kind++) {
            int[] f = {0, kind, 10 * random.nextInt(length), 0, 10 * (1 + random.nextInt(3)), 10};
            Check.due(x, 1, 101, f[0], f[1], f[2], f[3], f[4], f[5]);
            faults.add(f);
        }
        for (int p = 0; p < count; p++) {
            for (int kind = 0; kind < kinds; kind++) {
                if (random.nextBoolean()) {
                    Check.due(x, 1, 103, p, 0, kind);
                    allows.get(p)[0][kind] = true;
                }
            }
        }
        price = new long[8];
        way = 0;
        stages = 2;
        priced(x, 2 + random.nextInt(5));
    }

    private static boolean overlaps(int[] f, int x, int y, int w, int h) {
        return f[2] - margin < (x + w) * step && f[2] + f[4] + margin > x * step
            && f[3] - margin < (y + h) * step && f[3] + f[5] + margin > y * step;
    }

    private static boolean mayBe(int p, int x, int y, int w, int h) {
        int[] piece = pieces.get(p);
        int steps = (piece[0] + step - 1) / step;
        if (steps != h || w * step < piece[1] || w * step > piece[2] || w * step > bow) {
            return false;
        }
        for (int[] f : faults) {
            if (!allows.get(p)[f[0]][f[1]] && overlaps(f, x, y, w, h)) {
                return false;
            }
        }
        return true;
    }

    private static Plan best(int x, int y, int w, int h, boolean ripped, int s) {
        Plan best = null;
        if (s == 0) {
            for (int p = 0; p < pieces.size(); p++) {
                long worth = (long) pieces.get(p)[3] * w - price[p];
                if (mayBe(p, x, y, w, h) && (best == null || worth > best.worth)) {
                    best = new Plan();
                    best.worth = worth;
                    best.pieces.add(new int[] {x, y, w, h, p});
                }
            }
            return best == null ? new Plan() : best;
        }
        int size = ripped ? h : w;
        Plan[][] parts = new Plan[size + 1][size + 1];
        for (int p = 0; p < size; p++) {
            for (int q = p + 1; q <= size; q++) {
                boolean allowed = s < stages || !ripped || gang.isEmpty() || gang.contains(q - p);
                Plan part = ripped ? best(x, y + p, w, q - p, false, s - 1) : best(x + p, y, q - p, h, true, s - 1);
                parts[p][q] = allowed && !part.pieces.isEmpty() ? part : null;
            }
        }
        return choose(parts, 0, size, new Plan(), null);
    }

    private static Plan choose(Plan[][] parts, int p, int size, Plan sofar, Plan best) {
        if (p == size) {
            boolean better = best == null || sofar.worth > best.worth
                || sofar.worth == best.worth && sofar.pieces.size() < best.pieces.size()
                || sofar.worth == best.worth && sofar.pieces.size() == best.pieces.size() && longer(sofar, best);
            return better ? extend(sofar, null, -1) : best;
        }
        Plan kept = best;
        for (int q = size; q > p; q--) {
            if (parts[p][q] != null) {
                kept = choose(parts, q, size, extend(sofar, parts[p][q], q - p), kept);
            }
        }
        return choose(parts, p + 1, size, extend(sofar, null, 0), kept);
    }

    private static Plan extend(Plan from, Plan part, int segment) {
        Plan plan = new Plan();
        plan.worth = from.worth + (part == null ? 0 : part.worth);
        plan.pieces.addAll(from.pieces);
        if (part != null) {
            plan.pieces.addAll(part.pieces);
        }
        plan.segments.addAll(from.segments);
        if (segment >= 0) {
            plan.segments.add(segment);
        }
        return plan;
    }

    private static boolean longer(Plan a, Plan b) {
        for (int i = 0; i < Math.min(a.segments.size(), b.segments.size()); i++) {
            if (!a.segments.get(i).equals(b.segments.get(i))) {
                return a.segments.get(i) > b.segments.get(i);
            }
        }
        return false;
    }

    private static long trueWorth(List<int[]> plan) {
        long sum = 0;
        for (int[] p : plan) {
            sum += (long) pieces.get(p[4])[3] * p[2];
        }
        return sum;
    }

    private static int count(List<int[]> plan, int piece) {
        return (int) plan.stream().filter(p -> p[4] == piece).count();
    }

    private static void compare(Random random) {
        TimberHouse x = new TimberHouse();
        step = 1 + random.nextInt(5);
        length = random.nextInt(6);
        width = random.nextInt(5);
        Check.due(x, 1, 100, Math.max(1, width * step + random.nextInt(step)), Math.max(1, length * step + random.nextInt(step)), step);
        if (step == 1) {
            length = Math.max(length, 1);
            width = Math.max(width, 1);
        }
        tell(x, random);
        price = new long[8];
        way = 0;
        stages = 2;
        for (int times = 0; times < 3 && Check.left(x) > 280; times++) {
            if (random.nextBoolean()) {
                way = random.nextInt(2);
                stages = 1 + random.nextInt(3);
                Arrays.fill(price, 0);
                Plan plan = best(0, 0, length, width, way == 0, stages);
                Check.due(x, plan.pieces.size(), 108, way, stages);
                Check.due(x, plan.worth, 113);
                Check.due(x, 1, 117);
                same(x, plan.pieces);
            } else {
                priced(x, 1 + random.nextInt(6));
            }
        }
    }

    private static void clear() {
        faults.clear();
        pieces.clear();
        allows.clear();
        gang.clear();
        margin = 0;
        bow = 16777216;
        needs = new int[8];
        Arrays.fill(needs, -1);
    }

    private static void tell(TimberHouse x, Random random) {
        clear();
        int count = random.nextInt(4);
        for (int p = 0; p < count; p++) {
            int low = 1 + random.nextInt(2 * step);
            int[] piece = {1 + random.nextInt(3 * step), low, low + random.nextInt(5 * step), 1 + random.nextInt(random.nextInt(4) == 0 ? 900 : 4)};
            pieces.add(piece);
            allows.add(new boolean[2][8]);
            Check.due(x, p, 102, piece[0], piece[1], piece[2], piece[3]);
            if (random.nextInt(3) == 0) {
                needs[p] = random.nextInt(4);
                Check.due(x, 1, 105, p, needs[p]);
                Check.due(x, 0, 105, p, needs[p]);
            }
            for (int i = random.nextInt(4); i > 0; i--) {
                int face = random.nextInt(2);
                int kind = random.nextInt(2);
                Check.due(x, allows.get(p)[face][kind] ? 0 : 1, 103, p, face, kind);
                allows.get(p)[face][kind] = true;
            }
        }
        for (int i = random.nextInt(3); i > 0; i--) {
            int[] f = {random.nextInt(2), random.nextInt(2), random.nextInt(30) - 5, random.nextInt(20) - 5, random.nextInt(6), random.nextInt(6)};
            Check.due(x, f[4] == 0 || f[5] == 0 ? 0 : 1, 101, f[0], f[1], f[2], f[3], f[4], f[5]);
            if (f[4] > 0 && f[5] > 0) {
                faults.add(f);
            }
        }
        if (random.nextInt(3) == 0) {
            margin = random.nextInt(3);
            Check.due(x, margin == 0 ? 0 : 1, 106, margin);
        }
        if (random.nextInt(4) == 0) {
            bow = 1 + random.nextInt(20);
            Check.due(x, 1, 107, bow);
        }
        for (int i = random.nextInt(5) - 2; i > 0; i--) {
            int w = 1 + random.nextInt(3 * step);
            int steps = (w + step - 1) / step;
            Check.due(x, gang.contains(steps) ? 0 : 1, 104, w);
            gang.add(steps);
        }
    }

    private static void priced(TimberHouse x, int rounds) {
        Arrays.fill(price, 0);
        long bound = Long.MAX_VALUE;
        List<int[]> kept = null;
        List<int[]> last = null;
        long[] used = price.clone();
        int r = 0;
        boolean ends = false;
        while (!ends && r < rounds) {
            r++;
            used = price.clone();
            Plan plan = best(0, 0, length, width, way == 0, stages);
            last = plan.pieces;
            long value = plan.worth;
            boolean tooMany = false;
            boolean just = true;
            for (int p = 0; p < pieces.size(); p++) {
                if (needs[p] >= 0) {
                    value += price[p] * needs[p];
                    tooMany |= count(last, p) > needs[p];
                    just &= price[p] == 0 || count(last, p) == needs[p];
                    price[p] = Math.max(0, price[p] + (long) (count(last, p) - needs[p]) * Math.max(1, 256 / r));
                }
            }
            bound = Math.min(bound, value);
            if (!tooMany && (kept == null || trueWorth(last) > trueWorth(kept))) {
                kept = last;
            }
            ends = !tooMany && just;
        }
        if (kept == null) {
            kept = new ArrayList<>(last);
            for (int k = kept.size() - 1; k >= 0; k--) {
                int p = kept.get(k)[4];
                if (needs[p] >= 0 && count(kept, p) > needs[p]) {
                    kept.remove(k);
                }
            }
        }
        Check.due(x, r, 109, rounds);
        Check.due(x, bound, 113);
        Check.due(x, bound == trueWorth(kept) ? 1 : 0, 117);
        for (int p = 0; p < pieces.size(); p++) {
            Check.due(x, used[p], 114, p, 0);
        }
        same(x, kept);
    }

    private static void same(TimberHouse x, List<int[]> plan) {
        Check.due(x, plan.size(), 111, -1, 0);
        Check.due(x, trueWorth(plan), 110);
        boolean[][] covered = new boolean[width][length];
        for (int k = 0; k < plan.size(); k++) {
            int[] p = plan.get(k);
            for (int what = 0; what < 5; what++) {
                Check.due(x, p[what], 111, k, what);
            }
            Check.due(x, (long) pieces.get(p[4])[3] * p[2], 111, k, 5);
            boolean clear = true;
            for (int[] f : faults) {
                clear &= !overlaps(f, p[0], p[1], p[2], p[3]);
            }
            Check.due(x, clear ? 1 : 0, 112, k);
            for (int y = p[1]; y < p[1] + p[3]; y++) {
                Arrays.fill(covered[y], p[0], p[0] + p[2], true);
            }
        }
        for (int p = 0; p < pieces.size(); p++) {
            Check.due(x, count(plan, p), 114, p, 1);
            Check.due(x, needs[p], 114, p, 2);
        }
        salvages(x, covered);
        for (int w = 1; w <= 6; w++) {
            List<Integer> panel = panel(plan, 0, w);
            for (int k = 0; k < 5; k++) {
                Check.due(x, panel == null || k >= panel.size() ? -1 : panel.get(k), 116, w, k);
            }
        }
    }

    private static void salvages(TimberHouse x, boolean[][] covered) {
        int rows = 0;
        for (int y = 0; y < width; y++) {
            for (int i = 0; i < length; i++) {
                if (!covered[y][i] && (i == 0 || covered[y][i - 1])) {
                    int end = i;
                    while (end < length && !covered[y][end]) {
                        end++;
                    }
                    Check.due(x, i, 115, rows, 0);
                    Check.due(x, y, 115, rows, 1);
                    Check.due(x, end - i, 115, rows, 2);
                    rows++;
                }
            }
        }
        Check.due(x, rows, 115, -1, 2);
        Check.due(x, Check.THING, 115, rows, 2);
    }

    private static List<Integer> panel(List<int[]> plan, int from, int left) {
        if (left == 0) {
            return new ArrayList<>();
        }
        List<Integer> best = null;
        for (int i = from; i < plan.size(); i++) {
            List<Integer> rest = plan.get(i)[3] <= left ? panel(plan, i + 1, left - plan.get(i)[3]) : null;
            if (rest != null && (best == null || rest.size() + 1 < best.size())) {
                best = rest;
                best.add(0, i);
            }
        }
        return best;
    }

    private static void edges() {
        TimberHouse x = new TimberHouse();
        for (int call : new int[] {110, 111, 112, 113, 114, 115, 116, 117}) {
            Check.due(x, Check.STATE, call, 1000, 1000);
        }
        Check.due(x, 0, 108, 0, 2);
        Check.due(x, 0, 111, -1, 0);
        Check.due(x, Check.NUMBER, 111, -1, 6);
        Check.due(x, Check.THING, 111, -2, 6);
        Check.due(x, Check.THING, 111, 0, 6);
        Check.due(x, Check.THING, 112, 0);
        Check.due(x, Check.THING, 114, 0, 0);
        Check.due(x, 10, 115, -1, 0);
        Check.due(x, 24, 115, 9, 2);
        Check.due(x, Check.NUMBER, 115, -1, 3);
        Check.due(x, Check.NUMBER, 115, 9, -1);
        Check.due(x, Check.THING, 115, 10, -1);
        Check.due(x, Check.NUMBER, 116, 0, 0);
        Check.due(x, Check.NUMBER, 116, 101, 0);
        Check.due(x, Check.NUMBER, 116, 1, -1);
        Check.due(x, -1, 116, 100, 0);
        Check.due(x, 0, 101, 0, 0, 1, 1, 0, 5);
        Check.due(x, 0, 110);
        Check.due(x, 0, 106, 0);
        Check.due(x, 0, 107, 16777216);
        Check.due(x, 0, 110);
        Check.due(x, Check.NUMBER, 108, 2, 1);
        Check.due(x, Check.NUMBER, 108, 0, 4);
        Check.due(x, Check.NUMBER, 108, 0, 0);
        Check.due(x, Check.NUMBER, 109, 0);
        Check.due(x, Check.NUMBER, 109, 7);
        Check.due(x, Check.NUMBER, 106, -1);
        Check.due(x, Check.NUMBER, 106, 65537);
        Check.due(x, Check.NUMBER, 107, 0);
        Check.due(x, Check.NUMBER, 107, 16777217);
        Check.due(x, Check.NUMBER, 104, 0);
        Check.due(x, Check.NUMBER, 104, 65537);
        Check.due(x, Check.THING, 105, 0, -1);
        Check.due(x, 0, 110);
        Check.due(x, 0, 102, 65536, 1, 65536, 100000);
        Check.due(x, Check.STATE, 110);
        Check.due(x, Check.NUMBER, 102, 0, 1, 1, 1);
        Check.due(x, Check.NUMBER, 102, 1, 2, 1, 1);
        Check.due(x, Check.NUMBER, 102, 1, 1, 65537, 1);
        Check.due(x, Check.NUMBER, 102, 1, 1, 1, 100001);
        Check.due(x, Check.THING, 105, 1, 5);
        Check.due(x, Check.NUMBER, 105, 0, 1001);
        Check.due(x, Check.NUMBER, 105, 0, -1);
        Check.due(x, Check.THING, 103, 0, 2, 9);
        Check.due(x, Check.NUMBER, 103, 0, 1, 8);
        for (int i = 1; i < 8; i++) {
            Check.due(x, i, 102, 1, 1, 1, 1);
        }
        Check.due(x, Check.STATE, 102, 0, 0, 0, 0);
        Check.due(x, Check.THING, 101, 2, 9, 0, 0, 0, 0);
        Check.due(x, Check.NUMBER, 101, 0, 8, 0, 0, 0, 0);
        Check.due(x, Check.NUMBER, 101, 0, 7, 65537, 0, 1, 1);
        Check.due(x, Check.NUMBER, 101, 0, 7, 0, -65537, 1, 1);
        Check.due(x, Check.NUMBER, 101, 0, 7, 0, 0, 0, 65537);
        for (int i = 0; i < 20; i++) {
            Check.due(x, 1, 101, 1, 7, -65536, 65536, 65536, 65536);
        }
        Check.due(x, Check.STATE, 101, 0, 9, 0, 0, 0, 0);
        Check.due(x, Check.THING, 101, -1, 9, 0, 0, 0, 0);
        full();
        anew();
    }

    /** The largest board full of the smallest pieces. */
    private static void full() {
        TimberHouse x = new TimberHouse();
        Check.due(x, 1, 100, 65536, 65536, 1);
        Check.due(x, 0, 102, 1, 1, 1, 100000);
        Check.due(x, 240, 108, 1, 3);
        Check.due(x, 24000000, 110);
        Check.due(x, 99, 116, 100, 99);
        Check.due(x, -1, 116, 100, 100);
        Check.due(x, 0, 115, -1, 0);
        Check.due(x, 1, 105, 0, 120);
        Check.due(x, Check.STATE, 110);
        Check.due(x, 6, 109, 6);
        Check.due(x, 120 * 100000, 110);
        Check.due(x, 0, 117);
        Check.due(x, 1, 105, 0, 240);
        Check.due(x, 1, 109, 6);
        Check.due(x, 1, 117);
        Check.due(x, 1, 104, 2);
        Check.due(x, 1, 109, 1);
        Check.due(x, 24000000, 110);
        Check.due(x, 240, 108, 0, 3);
        Check.due(x, 0, 108, 0, 2);
        Check.due(x, 0, 104, 2);
        Check.due(x, 0, 111, -1, 0);
    }

    private static void anew() {
        TimberHouse x = new TimberHouse();
        Check.due(x, 0, 102, 10, 1, 100, 1);
        Check.due(x, 0, 108, 0, 1);
        Check.due(x, 1, 100, 9, 240, 10);
        Check.due(x, 0, 108, 0, 1);
        Check.due(x, 0, 115, -1, 0);
        Check.due(x, Check.THING, 103, 0, 0, 0);
        Check.due(x, 1, 100, -1, -1, -1);
        Check.due(x, 0, 108, 0, 1);
        Check.due(x, 1, 115, -1, 0);
        Check.due(x, 1, 100, 100, 240, 10);
        Check.due(x, 1, 100, 100, 240, 10);
        Check.due(x, 0, 108, 0, 1);
        Check.due(x, 0, 100, 1, 1, 1);
        Check.due(x, 10, 115, -1, 0);
    }
}
