import java.util.ArrayList;
import java.util.Arrays;
import java.util.List;
import java.util.Random;

/** FINGERS with as many pieces and steps as there may be: the best rest from each step on, walked step by step. */
public final class FingersLargeTest {
    private static int step;
    private static int loss;
    private static int[] lengths;
    private static int[] groups;
    private static final List<int[]> wants = new ArrayList<>();
    private static final List<int[]> bars = new ArrayList<>();
    private static final boolean[] alone = new boolean[8];

    /** What is best from a step of a piece on: worth, joints, waste, and the product that begins there (- 1: none). */
    private static final class Rest {
        private long worth;
        private int joints;
        private int waste;
        private int product = -1;
        private int[] end;

        private boolean beats(Rest o) {
            return worth != o.worth ? worth > o.worth : joints != o.joints ? joints < o.joints : waste < o.waste;
        }

        private boolean same(Rest o) {
            return !beats(o) && !o.beats(this);
        }
    }

    public static void main(String[] args) {
        Random random = new Random(23);
        for (int i = 0; i < 60; i++) {
            compare(random);
        }
        Check.end();
    }

    /** Where a product ends (place, step, joints) that begins there; null if it can't. */
    private static int[] walk(int[] order, int from, int at, int[] want) {
        int place = from;
        int here = at;
        for (int done = 0; done < want[0]; done++) {
            if (here == lengths[order[place]]) {
                if (place + 1 == order.length || !joins(order[place], order[place + 1], done)) {
                    return null;
                }
                place++;
                here = loss;
            }
            here++;
        }
        return new int[] {place, here, place - from};
    }

    private static boolean joins(int one, int other, int place) {
        boolean may = lengths[other] > loss;
        may &= groups[one] == groups[other] || !alone[groups[one]] && !alone[groups[other]];
        for (int[] bar : bars) {
            may &= (long) place * step <= bar[0] || (long) place * step >= bar[1];
        }
        return may;
    }

    private static Rest[][] line(int[] order) {
        Rest[][] rests = new Rest[order.length + 1][];
        rests[order.length] = new Rest[] {new Rest()};
        for (int place = order.length - 1; place >= 0; place--) {
            int length = lengths[order[place]];
            rests[place] = new Rest[length + 1];
            rests[place][length] = rests[place + 1][0];
            for (int at = length - 1; at >= 0; at--) {
                rests[place][at] = best(order, rests, place, at);
            }
        }
        return rests;
    }

    private static Rest best(int[] order, Rest[][] rests, int place, int at) {
        Rest best = null;
        for (int w = 0; w < wants.size(); w++) {
            int[] end = walk(order, place, at, wants.get(w));
            if (end != null) {
                Rest behind = rests[end[0]][end[1]];
                Rest rest = new Rest();
                rest.worth = behind.worth + wants.get(w)[1];
                rest.joints = behind.joints + end[2];
                rest.waste = behind.waste;
                rest.product = w;
                rest.end = end;
                best = best == null || rest.beats(best) ? rest : best;
            }
        }
        Rest waste = new Rest();
        waste.worth = rests[place][at + 1].worth;
        waste.joints = rests[place][at + 1].joints;
        waste.waste = rests[place][at + 1].waste + 1;
        return best == null || waste.beats(best) ? waste : best;
    }

    private static void compare(Random random) {
        TimberHouse x = new TimberHouse();
        step = 1 + random.nextInt(9);
        int parts = 1 + random.nextInt(5 * step);
        loss = (parts + step - 1) / step;
        Check.due(x, 1, 200, step, parts);
        int count = 8 + random.nextInt(17);
        lengths = new int[count];
        groups = new int[count];
        for (int i = 0; i < count; i++) {
            int length = 1 + random.nextInt((random.nextBoolean() ? 61 : 14) * step - 1);
            lengths[i] = length / step;
            groups[i] = random.nextInt(4);
            Check.due(x, i, 201, length, groups[i]);
        }
        wants.clear();
        bars.clear();
        for (int i = 1 + random.nextInt(6); i > 0; i--) {
            int length = step + random.nextInt((random.nextBoolean() ? 119 : 30) * step);
            int worth = random.nextInt(3) == 0 ? length / step : 1 + random.nextInt(130);
            wants.add(new int[] {length / step, worth});
            Check.due(x, 1, 202, length, worth);
        }
        for (int i = random.nextInt(9); i > 0; i--) {
            int from = random.nextInt(90 * step);
            bars.add(new int[] {from, from + 1 + random.nextInt(9 * step)});
            Check.due(x, 1, 203, from, bars.get(bars.size() - 1)[1]);
        }
        Arrays.fill(alone, false);
        for (int g = 0; g < 4; g++) {
            alone[g] = random.nextInt(5) == 0;
            Check.due(x, alone[g] ? 1 : 0, 204, g, alone[g] ? 1 : 0);
        }
        runs(x, random, count);
    }

    private static void runs(TimberHouse x, Random random, int count) {
        int[] told = new int[count];
        Arrays.setAll(told, i -> i);
        same(x, random, told, line(told), 205, 0);
        int buffer = random.nextInt(5) + random.nextInt(2);
        int[][] best = {told.clone()};
        Rest[] bestRest = {null};
        orders(told.clone(), 0, buffer, order -> {
            Rest rest = line(order)[0][0];
            if (bestRest[0] == null || rest.beats(bestRest[0])
                || rest.same(bestRest[0]) && Arrays.compare(order, best[0]) < 0) {
                bestRest[0] = rest;
                best[0] = order.clone();
            }
        });
        same(x, random, best[0], line(best[0]), 206, buffer);
    }

    private interface Each {
        void look(int[] order);
    }

    private static void orders(int[] order, int place, int buffer, Each each) {
        if (place >= buffer) {
            each.look(order);
            return;
        }
        for (int i = place; i < buffer; i++) {
            swap(order, place, i);
            orders(order, place + 1, buffer, each);
            swap(order, place, i);
        }
    }

    private static void swap(int[] order, int i, int j) {
        int held = order[i];
        order[i] = order[j];
        order[j] = held;
    }

    private static void same(TimberHouse x, Random random, int[] order, Rest[][] rests, int call, int buffer) {
        List<int[]> made = new ArrayList<>();
        List<int[]> joints = new ArrayList<>();
        int place = 0;
        int at = 0;
        while (place < order.length) {
            if (at == lengths[order[place]]) {
                place++;
                at = 0;
                continue;
            }
            Rest rest = rests[place][at];
            if (rest.product < 0) {
                at++;
                continue;
            }
            int have = lengths[order[place]] - at;
            for (int next = place + 1; next <= rest.end[0]; next++) {
                joints.add(new int[] {made.size(), have, next});
                have += lengths[order[next]] - loss;
            }
            made.add(new int[] {rest.product, place, at, rest.end[2]});
            place = rest.end[0];
            at = rest.end[1];
        }
        Check.due(x, made.size(), call, buffer);
        Check.due(x, rests[0][0].worth, 208, 0);
        Check.due(x, rests[0][0].joints, 208, 1);
        Check.due(x, rests[0][0].waste, 208, 2);
        Check.due(x, joints.size(), 208, 1);
        for (int k = 0; k < order.length; k++) {
            Check.due(x, order[k], 207, k);
        }
        for (int k = 0; k < joints.size(); k++) {
            for (int what = 0; what < 3; what++) {
                Check.due(x, joints.get(k)[what], 210, k, what);
            }
        }
        for (int k = 0; k < made.size() && k < 60; k++) {
            int what = random.nextInt(4);
            Check.due(x, made.get(k)[what], 209, k, what);
        }
        Check.due(x, Check.THING, 209, made.size(), 0);
    }
}
