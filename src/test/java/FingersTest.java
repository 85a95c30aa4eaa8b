import java.util.ArrayList;
import java.util.List;
import java.util.Random;

/** FINGERS against all lines of few short pieces, one by one, and the edges that the document names. */
public final class FingersTest {
    private static int step;
    private static int loss;
    private static final List<int[]> pieces = new ArrayList<>();
    private static final List<int[]> wants = new ArrayList<>();
    private static final List<int[]> bars = new ArrayList<>();
    private static final boolean[] alone = new boolean[8];

    /** A line as its choices: a product made, or waste (99); made as which, place, step, joints. */
    private static final class Line {
        private long worth;
        private int waste;
        private final List<Integer> choices = new ArrayList<>();
        private final List<int[]> made = new ArrayList<>();
        private final List<int[]> joints = new ArrayList<>();

        private Line copy() {
            Line line = new Line();
            line.worth = worth;
            line.waste = waste;
            line.choices.addAll(choices);
            line.made.addAll(made);
            line.joints.addAll(joints);
            return line;
        }

        private int against(Line o) {
            if (worth != o.worth) {
                return worth > o.worth ? 1 : -1;
            }
            if (joints.size() != o.joints.size()) {
                return joints.size() < o.joints.size() ? 1 : -1;
            }
            return Integer.compare(o.waste, waste);
        }

        private boolean before(Line o) {
            for (int i = 0; i < Math.min(choices.size(), o.choices.size()); i++) {
                if (!choices.get(i).equals(o.choices.get(i))) {
                    return choices.get(i) < o.choices.get(i);
                }
            }
            return false;
        }
    }

    public static void main(String[] args) {
        Random random = new Random(7);
        for (int i = 0; i < 800; i++) {
            compare(random);
        }
        edges();
        cures();
        stops();
        Check.end();
    }

    private static Line best(int[] order, int place, int at, Line sofar, Line best) {
        if (place == order.length) {
            int how = best == null ? 1 : sofar.against(best);
            return how > 0 || how == 0 && sofar.before(best) ? sofar : best;
        }
        int length = pieces.get(order[place])[0] / step;
        if (at == length) {
            return best(order, place + 1, 0, sofar, best);
        }
        Line kept = best;
        for (int w = 0; w < wants.size(); w++) {
            Line line = sofar.copy();
            int[] end = make(order, place, at, w, line);
            if (end != null) {
                kept = best(order, end[0], end[1], line, kept);
            }
        }
        Line line = sofar.copy();
        line.waste++;
        line.choices.add(99);
        return best(order, place, at + 1, line, kept);
    }

    /** Step by step along the product. */
    private static int[] make(int[] order, int from, int at, int w, Line line) {
        int place = from;
        int here = at;
        int joints = 0;
        for (int done = 0; done < wants.get(w)[0] / step; done++) {
            if (here == pieces.get(order[place])[0] / step) {
                if (place + 1 == order.length) {
                    return null;
                }
                int[] one = pieces.get(order[place]);
                int[] other = pieces.get(order[place + 1]);
                boolean apart = one[1] != other[1] && (alone[one[1]] || alone[other[1]]);
                if (apart || other[0] / step <= loss) {
                    return null;
                }
                for (int[] bar : bars) {
                    if (done * step > bar[0] && done * step < bar[1]) {
                        return null;
                    }
                }
                place++;
                here = loss;
                joints++;
                line.joints.add(new int[] {line.made.size(), done, place});
            }
            here++;
        }
        line.worth += wants.get(w)[1];
        line.choices.add(w);
        line.made.add(new int[] {w, from, at, joints});
        return new int[] {place, here};
    }

    private static void compare(Random random) {
        TimberHouse x = new TimberHouse();
        step = 1 + random.nextInt(4);
        int parts = 1 + random.nextInt(2 * step);
        loss = (parts + step - 1) / step;
        Check.due(x, 1, 200, step, parts);
        pieces.clear();
        wants.clear();
        bars.clear();
        java.util.Arrays.fill(alone, false);
        for (int i = random.nextInt(random.nextInt(8) == 0 ? 7 : 5); i > 0; i--) {
            int[] piece = {1 + random.nextInt((pieces.size() < 4 ? 5 : 3) * step), random.nextInt(3)};
            Check.due(x, pieces.size(), 201, piece[0], piece[1]);
            pieces.add(piece);
        }
        for (int i = random.nextInt(4); i > 0; i--) {
            int[] want = {step + random.nextInt(7 * step), 1 + random.nextInt(6)};
            Check.due(x, 1, 202, want[0], want[1]);
            wants.add(want);
        }
        for (int i = random.nextInt(4) - 2; i > 0; i--) {
            int from = random.nextInt(4 * step);
            int[] bar = {from, from + 1 + random.nextInt(2 * step)};
            Check.due(x, 1, 203, bar[0], bar[1]);
            bars.add(bar);
        }
        if (random.nextInt(3) == 0) {
            alone[1] = true;
            Check.due(x, 1, 204, 1, 1);
            Check.due(x, 0, 204, 1, 2);
        }
        int[] order = new int[pieces.size()];
        for (int i = 0; i < order.length; i++) {
            order[i] = i;
        }
        Line line = best(order, 0, 0, new Line(), null);
        if (random.nextInt(3) > 0) {
            Check.due(x, line.made.size(), 205);
            same(x, line, order);
        }
        int buffer = random.nextInt(6);
        List<int[]> orders = new ArrayList<>();
        permute(order, 0, Math.min(buffer, order.length), new boolean[order.length], order.clone(), orders);
        int[] bestOrder = null;
        Line bestLine = null;
        for (int[] o : orders) {
            Line l = best(o, 0, 0, new Line(), null);
            if (bestLine == null || l.against(bestLine) > 0) {
                bestLine = l;
                bestOrder = o;
            }
        }
        Check.due(x, bestLine.made.size(), 206, buffer);
        same(x, bestLine, bestOrder);
        Check.due(x, line.made.size(), 205);
        same(x, line, order);
    }

    private static void permute(int[] order, int place, int first, boolean[] used, int[] sofar, List<int[]> all) {
        if (place == first) {
            all.add(sofar.clone());
            return;
        }
        for (int p = 0; p < first; p++) {
            if (!used[p]) {
                used[p] = true;
                sofar[place] = p;
                permute(order, place + 1, first, used, sofar, all);
                used[p] = false;
            }
        }
    }

    private static void same(TimberHouse x, Line line, int[] order) {
        Check.due(x, line.worth, 208, 0);
        Check.due(x, line.joints.size(), 208, 1);
        Check.due(x, line.waste, 208, 2);
        Check.due(x, Check.THING, 208, 3);
        for (int k = 0; k < order.length; k++) {
            Check.due(x, order[k], 207, k);
        }
        Check.due(x, Check.THING, 207, order.length);
        for (int k = 0; k < line.made.size(); k++) {
            for (int what = 0; what < 4; what++) {
                Check.due(x, line.made.get(k)[what], 209, k, what);
            }
        }
        Check.due(x, Check.THING, 209, line.made.size(), 9);
        for (int k = 0; k < line.joints.size(); k++) {
            for (int what = 0; what < 3; what++) {
                Check.due(x, line.joints.get(k)[what], 210, k, what);
            }
        }
        Check.due(x, Check.THING, 210, line.joints.size(), 9);
    }

    private static void edges() {
        TimberHouse x = new TimberHouse();
        for (int call = 207; call <= 213; call++) {
            Check.due(x, Check.STATE, call, -1, -1);
        }
        Check.due(x, 0, 205);
        Check.due(x, 0, 208, 0);
        Check.due(x, 0, 206, 5);
        Check.due(x, Check.NUMBER, 206, 6);
        Check.due(x, Check.NUMBER, 206, -1);
        Check.due(x, Check.NUMBER, 201, 0, 0);
        Check.due(x, Check.NUMBER, 201, 610, 0);
        Check.due(x, Check.NUMBER, 201, 10, 8);
        Check.due(x, 0, 208, 0);
        Check.due(x, 0, 201, 609, 7);
        Check.due(x, Check.STATE, 208, 0);
        Check.due(x, 1, 201, 1, 0);
        Check.due(x, 0, 205);
        Check.due(x, 60, 208, 2);
        Check.due(x, Check.NUMBER, 202, 9, 1);
        Check.due(x, Check.NUMBER, 202, -2147483648, 1);
        Check.due(x, Check.NUMBER, 202, 1210, 1);
        Check.due(x, Check.NUMBER, 202, 10, 0);
        Check.due(x, Check.NUMBER, 202, 10, 100001);
        Check.due(x, 60, 208, 2);
        for (int i = 0; i < 6; i++) {
            Check.due(x, 1, 202, 1209, 100000);
        }
        Check.due(x, Check.STATE, 208, 2);
        Check.due(x, 0, 205);
        Check.due(x, 0, 202, 10, 1);
        Check.due(x, Check.NUMBER, 202, 0, 1);
        Check.due(x, 60, 208, 2);
        Check.due(x, Check.NUMBER, 203, -1, 5);
        Check.due(x, Check.NUMBER, 203, 5, 5);
        for (int i = 0; i < 8; i++) {
            Check.due(x, 1, 203, 0, 2147483647);
        }
        Check.due(x, Check.STATE, 208, 2);
        Check.due(x, 0, 205);
        Check.due(x, 0, 203, 0, 1);
        Check.due(x, Check.NUMBER, 203, 1, 0);
        Check.due(x, Check.NUMBER, 204, 8, 0);
        Check.due(x, Check.NUMBER, 204, -1, 1);
        Check.due(x, 0, 204, 3, 0);
        Check.due(x, 60, 208, 2);
        Check.due(x, 1, 204, 3, -1);
        Check.due(x, Check.STATE, 208, 2);
        for (int i = 2; i < 24; i++) {
            Check.due(x, i, 201, 609, i % 8);
        }
        Check.due(x, Check.STATE, 201, 0, 9);
        Check.due(x, 1, 200, 1, 1);
        Check.due(x, 0, 204, 3, 0);
        for (int i = 0; i < 24; i++) {
            Check.due(x, i, 201, 60, 0);
        }
        Check.due(x, 1, 202, 1, 100000);
        Check.due(x, 1, 202, 2, 200);
        Check.due(x, 1440, 206, 5);
        Check.due(x, 144000000, 208, 0);
        Check.due(x, 23, 209, 1439, 1);
        Check.due(x, 59, 209, 1439, 2);
    }

    private static TimberHouse line() {
        TimberHouse x = new TimberHouse();
        Check.due(x, 0, 201, 100, 0);
        Check.due(x, 1, 202, 50, 7);
        Check.due(x, 2, 205);
        return x;
    }

    private static void cures() {
        TimberHouse x = line();
        Check.due(x, 1, 212, 0, 0);
        Check.due(x, 0, 212, 0, -1);
        Check.due(x, 0, 211, 0, 0);
        Check.due(x, 1, 211, 0, 1000);
        Check.due(x, 0, 211, 0, 1000);
        Check.due(x, 0, 212, 0, 999);
        Check.due(x, 1, 212, 0, 1000);
        Check.due(x, 1, 212, 1, 0);
        Check.due(x, Check.THING, 211, 2, 1001);
        Check.due(x, Check.NUMBER, 211, 1, 1001);
        Check.due(x, Check.NUMBER, 211, 1, -1);
        Check.due(x, Check.THING, 212, 2, 0);
        Check.due(x, 2, 205);
        Check.due(x, 1, 212, 0, 0);
    }

    private static void stops() {
        TimberHouse x = line();
        Check.due(x, Check.THING, 213, 2, -1);
        Check.due(x, Check.NUMBER, 213, 1, -1);
        Check.due(x, Check.NUMBER, 213, 1, 8001);
        Check.due(x, 1, 213, 1, 8000);
        Check.due(x, 2, 213, 0, 128);
        Check.due(x, 0, 215, 0);
        Check.due(x, 3, 213, 0, 127);
        Check.due(x, 3, 215, 0);
        Check.due(x, 0, 215, 1);
        Check.due(x, 4, 213, 0, 200);
        Check.due(x, 5, 213, 0, 0);
        Check.due(x, 0, 215, 1);
        Check.due(x, 2, 205);
        Check.due(x, 6, 213, 0, 0);
        Check.due(x, 6, 215, 1);
        Check.due(x, 7, 213, 0, 300);
        Check.due(x, 8, 213, 0, 300);
        Check.due(x, 9, 213, 0, 300);
        Check.due(x, 0, 215, 2);
        Check.due(x, 10, 213, 0, 300);
        Check.due(x, 10, 215, 2);
        Check.due(x, 3, 215, 0);
        Check.due(x, 3, 214, 0);
        Check.due(x, 7, 214, 1);
        Check.due(x, Check.THING, 214, 2);
        Check.due(x, Check.THING, 215, 3);
        Check.due(x, Check.THING, 215, -1);
        Check.due(x, 1, 200, 10, 10);
        Check.due(x, 0, 214, 0);
        Check.due(x, 0, 215, 0);
        tenth();
    }

    /** One of ten is just a tenth; the second of nineteen is more. */
    private static void tenth() {
        TimberHouse x = line();
        for (int i = 1; i <= 20; i++) {
            Check.due(x, i, 213, 0, i == 5 || i == 20 ? 1 : 999);
        }
        Check.due(x, 0, 215, 2);
        Check.due(x, 21, 213, 0, 127);
        Check.due(x, 21, 215, 2);
        Check.due(x, 21, 215, 1);
    }
}
