import java.util.ArrayList;
import java.util.Arrays;
import java.util.HashMap;
import java.util.List;
import java.util.Map;
import java.util.Random;

/** RIPS on boards of full size: the best plan of each rectangle, kept by its corners, with its segments compared. */
public final class RipsLargeTest {
    private static int step;
    private static int size;
    private static int width;
    private static int margin;
    private static int bow;
    private static int stages;
    private static final List<int[]> faults = new ArrayList<>();
    private static final List<int[]> pieces = new ArrayList<>();
    private static final List<boolean[][]> allows = new ArrayList<>();
    private static final List<Integer> gang = new ArrayList<>();
    private static final int[] needs = new int[8];
    private static final long[] price = new long[8];
    private static final Map<Long, Plan> known = new HashMap<>();

    /** A plan of a rectangle from a place on: its worth, how many pieces, its first segment, and what is behind. */
    private static final class Plan {
        private long worth;
        private int count;
        private int segment;
        private int piece = -1;
        private int[] box;
        private Plan inside;
        private Plan behind;

        private boolean beats(Plan o) {
            return worth != o.worth ? worth > o.worth : count != o.count ? count < o.count : segment > o.segment;
        }

        private void tell(List<int[]> all) {
            if (piece >= 0) {
                all.add(new int[] {box[0], box[2], box[1] - box[0], box[3] - box[2], piece});
            }
            if (inside != null) {
                inside.tell(all);
            }
            if (behind != null) {
                behind.tell(all);
            }
        }
    }

    public static void main(String[] args) {
        Random random = new Random(22);
        for (int i = 0; i < 70; i++) {
            compare(random);
        }
        Check.end();
    }

    private static boolean mayBe(int p, int x0, int x1, int y0, int y1) {
        int[] piece = pieces.get(p);
        long length = (long) (x1 - x0) * step;
        boolean is = (piece[0] + step - 1) / step == y1 - y0 && length >= piece[1] && length <= piece[2] && length <= bow;
        for (int i = 0; i < faults.size() && is; i++) {
            int[] f = faults.get(i);
            boolean along = f[2] - margin < x1 * step && x0 * step < f[2] + f[4] + margin;
            boolean across = f[3] - margin < y1 * step && y0 * step < f[3] + f[5] + margin;
            is = allows.get(p)[f[0]][f[1]] || !along || !across;
        }
        return is;
    }

    private static Plan best(int x0, int x1, int y0, int y1, boolean ripped, int s) {
        long key = ((((x0 * 32L + x1) * 16 + y0) * 16 + y1) * 2 + (ripped ? 1 : 0)) * 4 + s;
        Plan plan = known.get(key);
        if (plan == null) {
            plan = s == 0 ? one(x0, x1, y0, y1) : cut(x0, x1, y0, y1, ripped, s);
            known.put(key, plan);
        }
        return plan;
    }

    private static Plan one(int x0, int x1, int y0, int y1) {
        Plan best = new Plan();
        for (int p = 0; p < pieces.size(); p++) {
            long worth = (long) pieces.get(p)[3] * (x1 - x0) - price[p];
            if (mayBe(p, x0, x1, y0, y1) && (best.piece < 0 || worth > best.worth)) {
                best.worth = worth;
                best.count = 1;
                best.piece = p;
            }
        }
        best.box = new int[] {x0, x1, y0, y1};
        return best;
    }

    private static Plan cut(int x0, int x1, int y0, int y1, boolean ripped, int s) {
        int end = ripped ? y1 : x1;
        Plan behind = null;
        Plan[] from = new Plan[end + 1];
        for (int p = end - 1; p >= (ripped ? y0 : x0); p--) {
            Plan best = with(null, 0, from[p + 1]);
            for (int q = p + 1; q <= end; q++) {
                Plan part = ripped ? best(x0, x1, p, q, false, s - 1) : best(p, q, y0, y1, true, s - 1);
                boolean allowed = s < stages || !ripped || gang.isEmpty() || gang.contains(q - p);
                Plan plan = with(part, q - p, from[q]);
                best = allowed && part.count > 0 && plan.beats(best) ? plan : best;
            }
            from[p] = best;
            behind = best;
        }
        return behind == null ? new Plan() : behind;
    }

    private static Plan with(Plan inside, int segment, Plan behind) {
        Plan plan = new Plan();
        plan.inside = inside;
        plan.segment = segment;
        plan.behind = behind;
        plan.worth = (inside == null ? 0 : inside.worth) + (behind == null ? 0 : behind.worth);
        plan.count = (inside == null ? 0 : inside.count) + (behind == null ? 0 : behind.count);
        return plan;
    }

    private static void compare(Random random) {
        TimberHouse x = new TimberHouse();
        step = 1 + random.nextInt(12);
        size = 10 + random.nextInt(15);
        width = 4 + random.nextInt(7);
        // A board of more steps than are looked at is cut as one of just these.
        int longer = size == 24 ? random.nextInt(50) : random.nextInt(step);
        int wider = width == 10 ? random.nextInt(50) : random.nextInt(step);
        Check.due(x, 1, 100, width * step + wider, size * step + longer, step);
        tellPieces(x, random);
        tellFaults(x, random);
        for (int times = 0; times < 2; times++) {
            stages = 1 + random.nextInt(3);
            int way = random.nextInt(2);
            Arrays.fill(price, 0);
            Plan plan = solve(way);
            Check.due(x, plan.count, 108, way, stages);
            Check.due(x, plan.worth, 113);
            same(x, random, told(plan));
            priced(x, random, way);
        }
    }

    private static Plan solve(int way) {
        known.clear();
        return best(0, size, 0, width, way == 0, stages);
    }

    private static List<int[]> told(Plan plan) {
        List<int[]> all = new ArrayList<>();
        plan.tell(all);
        return all;
    }

    private static void tellPieces(TimberHouse x, Random random) {
        pieces.clear();
        allows.clear();
        gang.clear();
        Arrays.fill(needs, -1);
        int count = 2 + random.nextInt(7);
        for (int p = 0; p < count; p++) {
            int low = 1 + random.nextInt(8 * step);
            int steps = 1 + random.nextInt(4);
            int worth = random.nextInt(3) == 0 ? 3 * steps : 1 + random.nextInt(60);
            pieces.add(new int[] {Math.max(1, steps * step - random.nextInt(step)), low, low + random.nextInt(12 * step), worth});
            allows.add(new boolean[2][8]);
            int[] piece = pieces.get(p);
            Check.due(x, p, 102, piece[0], piece[1], piece[2], piece[3]);
            for (int i = random.nextInt(5); i > 0; i--) {
                int face = random.nextInt(2);
                int kind = random.nextInt(3);
                Check.due(x, allows.get(p)[face][kind] ? 0 : 1, 103, p, face, kind);
                allows.get(p)[face][kind] = true;
            }
            if (random.nextBoolean()) {
                needs[p] = random.nextInt(7);
                Check.due(x, 1, 105, p, needs[p]);
            }
        }
        for (int i = random.nextInt(6) - 2; i > 0; i--) {
            int w = 1 + random.nextInt(5 * step);
            int steps = (w + step - 1) / step;
            Check.due(x, gang.contains(steps) ? 0 : 1, 104, w);
            gang.add(steps);
        }
    }

    private static void tellFaults(TimberHouse x, Random random) {
        faults.clear();
        for (int i = random.nextInt(21); i > 0; i--) {
            int[] f = {random.nextInt(2), random.nextInt(3), random.nextInt(size * step + 20) - 10,
                random.nextInt(width * step + 20) - 10, 1 + random.nextInt(2 * step), 1 + random.nextInt(2 * step)};
            Check.due(x, 1, 101, f[0], f[1], f[2], f[3], f[4], f[5]);
            faults.add(f);
        }
        margin = random.nextInt(4) * random.nextInt(2);
        Check.due(x, margin == 0 ? 0 : 1, 106, margin);
        bow = random.nextInt(3) == 0 ? 1 + random.nextInt(20 * step) : 16777216;
        Check.due(x, bow == 16777216 ? 0 : 1, 107, bow);
    }

    private static int count(List<int[]> plan, int piece) {
        return (int) plan.stream().filter(p -> p[4] == piece).count();
    }

    private static long trueWorth(List<int[]> plan) {
        return plan.stream().mapToLong(p -> (long) pieces.get(p[4])[3] * p[2]).sum();
    }

    private static boolean tooMany(List<int[]> plan) {
        boolean is = false;
        for (int p = 0; p < pieces.size(); p++) {
            is |= needs[p] >= 0 && count(plan, p) > needs[p];
        }
        return is;
    }

    private static void priced(TimberHouse x, Random random, int way) {
        Arrays.fill(price, 0);
        int rounds = 1 + random.nextInt(6);
        long bound = Long.MAX_VALUE;
        List<int[]> kept = null;
        List<int[]> last = null;
        long[] used = price.clone();
        boolean ends = false;
        int r = 0;
        while (!ends && r < rounds) {
            r++;
            used = price.clone();
            Plan plan = solve(way);
            last = told(plan);
            long value = plan.worth;
            ends = !tooMany(last);
            kept = ends && (kept == null || trueWorth(last) > trueWorth(kept)) ? last : kept;
            for (int p = 0; p < pieces.size(); p++) {
                if (needs[p] >= 0) {
                    value += price[p] * needs[p];
                    ends &= price[p] == 0 || count(last, p) == needs[p];
                    price[p] = Math.max(0, price[p] + (count(last, p) - needs[p]) * (256 / r));
                }
            }
            bound = Math.min(bound, value);
        }
        if (kept == null) {
            kept = new ArrayList<>(last);
            for (int k = kept.size() - 1; k >= 0; k--) {
                int p = kept.get(k)[4];
                if (needs[p] >= 0 && count(kept, p) > needs[p]) {
                    kept.remove(k);
                }
            }
        }
        Check.due(x, r, 109, rounds);
        Check.due(x, bound, 113);
        Check.due(x, bound == trueWorth(kept) ? 1 : 0, 117);
        for (int p = 0; p < pieces.size(); p++) {
            Check.due(x, used[p], 114, p, 0);
        }
        same(x, random, kept);
    }

    private static void same(TimberHouse x, Random random, List<int[]> plan) {
        Check.due(x, plan.size(), 111, -1, 0);
        Check.due(x, trueWorth(plan), 110);
        for (int k = 0; k < plan.size() && Check.left(x) > 60; k++) {
            int what = random.nextInt(5);
            Check.due(x, plan.get(k)[what], 111, k, what);
        }
    }
}
