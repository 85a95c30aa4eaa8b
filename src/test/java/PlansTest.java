import java.util.ArrayList;
import java.util.List;
import java.util.Random;

/** PLANS against hours looked at one by one, and the edges that the document names. */
public final class PlansTest {
    private static final List<Integer> kinds = new ArrayList<>();
    private static final List<List<int[]>> outs = new ArrayList<>();
    private static final List<int[]> jobs = new ArrayList<>();
    /** Steps as job, kind, hours, wait. */
    private static final List<int[]> steps = new ArrayList<>();
    private static long seed;
    private static int nodes;
    private static int most;
    private static int bestCost;
    private static List<Integer> bestOrder;

    public static void main(String[] args) {
        Random random = new Random(9);
        for (int i = 0; i < 400; i++) {
            compare(random);
        }
        edges();
        anew();
        Check.end();
    }

    private static boolean free(int[][] plan, int machine, int hour) {
        for (int[] out : outs.get(machine)) {
            if (hour >= out[0] && hour < out[1]) {
                return false;
            }
        }
        for (int s = 0; s < steps.size(); s++) {
            if (plan[s] != null && plan[s][1] == machine && hour >= plan[s][0] && hour < plan[s][0] + steps.get(s)[2]) {
                return false;
            }
        }
        return true;
    }

    private static int place(int[][] plan, int job) {
        int ready = 0;
        int end = 0;
        for (int s = 0; s < steps.size(); s++) {
            int[] step = steps.get(s);
            if (step[0] != job) {
                continue;
            }
            int[] best = null;
            for (int hour = ready; best == null; hour++) {
                for (int m = 0; m < kinds.size() && best == null; m++) {
                    boolean fits = kinds.get(m) == step[1];
                    for (int h = hour; h < hour + step[2] && fits; h++) {
                        fits = free(plan, m, h);
                    }
                    best = fits ? new int[] {hour, m} : null;
                }
            }
            plan[s] = best;
            end = best[0] + step[2];
            ready = end + step[3];
        }
        return end;
    }

    private static int cost(int job, int end) {
        return jobs.get(job)[1] * Math.max(0, end - jobs.get(job)[0]);
    }

    private static int cost(List<Integer> order, int[][] plan) {
        int sum = 0;
        for (int job : order) {
            sum += cost(job, place(plan, job));
        }
        return sum;
    }

    private static int[][] empty() {
        return new int[steps.size()][];
    }

    private static int alone(int job) {
        return cost(job, place(empty(), job));
    }

    private static boolean fits(int job) {
        for (int[] step : steps) {
            if (step[0] == job && !kinds.contains(step[1])) {
                return false;
            }
        }
        return true;
    }

    private static boolean search(List<Integer> order) {
        for (int job = 0; job < jobs.size(); job++) {
            if (order.contains(job)) {
                continue;
            }
            if (nodes == most) {
                return false;
            }
            nodes++;
            order.add(job);
            int sum = cost(order, empty());
            for (int other = 0; other < jobs.size(); other++) {
                sum += order.contains(other) ? 0 : alone(other);
            }
            if (sum < bestCost) {
                if (order.size() == jobs.size()) {
                    bestCost = sum;
                    bestOrder = new ArrayList<>(order);
                } else if (!search(order)) {
                    return false;
                }
            }
            order.remove(order.size() - 1);
        }
        return true;
    }

    private static void compare(Random random) {
        TimberHouse x = new TimberHouse();
        kinds.clear();
        outs.clear();
        jobs.clear();
        steps.clear();
        seed = random.nextInt();
        Check.due(x, 1, 700, (int) seed);
        int[][] plan = null;
        List<Integer> planOrder = null;
        for (int round = 0; round < 4; round++) {
            tell(x, random);
            boolean fits = !jobs.isEmpty();
            for (int j = 0; j < jobs.size(); j++) {
                fits &= fits(j);
                Check.due(x, fits(j) ? alone(j) : Check.STATE, 711, j);
            }
            if (plan != null) {
                checks(x, plan);
            }
            most = random.nextInt(3) == 0 ? 1 + random.nextInt(12) : 2000;
            if (!fits) {
                Check.due(x, Check.STATE, 706, most);
                continue;
            }
            clashes(x);
            List<Integer> order = new ArrayList<>();
            int bound = 0;
            for (int j = 0; j < jobs.size(); j++) {
                order.add(j);
                bound += alone(j);
            }
            order.sort((a, b) -> jobs.get(a)[0] - jobs.get(b)[0]);
            bestOrder = order;
            bestCost = cost(order, empty());
            nodes = 0;
            Check.due(x, search(new ArrayList<>()) ? 0 : 1, 706, most);
            int[][] before = plan;
            plan = empty();
            planOrder = bestOrder;
            cost(planOrder, plan);
            same(x, plan, before, planOrder, bound);
            improve(x, random.nextInt(12), planOrder);
            before = plan;
            plan = empty();
            cost(planOrder, plan);
            same(x, plan, before, planOrder, bound);
            for (int j = 0; j < jobs.size(); j++) {
                int[][] others = plan.clone();
                for (int s = 0; s < steps.size(); s++) {
                    others[s] = steps.get(s)[0] == j ? null : plan[s];
                }
                Check.due(x, place(others, j), 712, j);
            }
            checks(x, plan);
        }
    }

    private static void tell(TimberHouse x, Random random) {
        for (int i = random.nextInt(4); i > 0 && kinds.size() < 6; i--) {
            int kind = random.nextInt(3);
            Check.due(x, kinds.size(), 701, kind);
            kinds.add(kind);
            outs.add(new ArrayList<>());
        }
        for (int i = random.nextInt(4); i > 0 && !kinds.isEmpty(); i--) {
            int m = random.nextInt(kinds.size());
            int from = random.nextInt(12);
            int to = from + 1 + random.nextInt(6);
            if (outs.get(m).size() < 8) {
                outs.get(m).add(new int[] {from, to});
                Check.due(x, outs.get(m).size(), 702, m, from, to);
            }
        }
        for (int i = random.nextInt(3); i > 0 && jobs.size() < 6; i--) {
            int[] job = {random.nextInt(20), random.nextInt(4)};
            Check.due(x, jobs.size(), 703, job[0], job[1]);
            jobs.add(job);
        }
        for (int i = random.nextInt(6); i > 0 && !jobs.isEmpty(); i--) {
            int job = random.nextInt(jobs.size());
            int[] step = {job, kinds.isEmpty() || random.nextInt(12) == 0 ? random.nextInt(3) : kinds.get(0), 1 + random.nextInt(5), random.nextInt(3)};
            boolean room = steps.stream().filter(s -> s[0] == job).count() < 4;
            Check.due(x, room ? steps.size() : Check.STATE, 705, job, step[1], step[2], step[3]);
            if (room) {
                steps.add(step);
            }
        }
        if (!jobs.isEmpty() && random.nextInt(3) == 0) {
            int job = random.nextInt(jobs.size());
            jobs.get(job)[0] = random.nextInt(20);
            Check.due(x, 0, 704, job, jobs.get(job)[0]);
        }
    }

    private static void clashes(TimberHouse x) {
        int k = 0;
        for (int a = 0; a < jobs.size(); a++) {
            for (int b = a + 1; b < jobs.size(); b++) {
                boolean either = cost(List.of(a, b), empty()) > 0 && cost(List.of(b, a), empty()) > 0;
                if (alone(a) == 0 && alone(b) == 0 && either) {
                    Check.due(x, 8 * a + b, 713, k);
                    k++;
                }
            }
        }
        Check.due(x, -1, 713, k);
    }

    private static void same(TimberHouse x, int[][] plan, int[][] before, List<Integer> order, int bound) {
        int changed = 0;
        for (int s = 0; s < steps.size(); s++) {
            Check.due(x, plan[s][0], 708, s, 0);
            Check.due(x, plan[s][1], 708, s, 1);
            changed += before == null || s >= before.length || before[s][0] != plan[s][0] || before[s][1] != plan[s][1] ? 1 : 0;
        }
        for (int k = 0; k < order.size(); k++) {
            Check.due(x, order.get(k), 709, k);
        }
        Check.due(x, Check.THING, 709, order.size());
        Check.due(x, cost(order, empty()), 710, 0);
        Check.due(x, bound, 710, 1);
        Check.due(x, nodes, 710, 2);
        Check.due(x, changed, 710, 3);
    }

    private static void improve(TimberHouse x, int n, List<Integer> order) {
        int less = 0;
        for (int i = 0; i < n; i++) {
            seed = seed * 6364136223846793005L + 1442695040888963407L;
            int a = (int) ((seed >>> 33) % order.size());
            seed = seed * 6364136223846793005L + 1442695040888963407L;
            int b = (int) ((seed >>> 33) % order.size());
            List<Integer> other = new ArrayList<>(order);
            other.set(a, order.get(b));
            other.set(b, order.get(a));
            if (cost(other, empty()) < cost(order, empty())) {
                order.clear();
                order.addAll(other);
                less++;
            }
        }
        Check.due(x, less, 707, n);
    }

    private static void checks(TimberHouse x, int[][] plan) {
        Check.due(x, broken(plan), 714);
        for (int s = plan.length; s < steps.size(); s++) {
            Check.due(x, -1, 708, s, 0);
        }
    }

    private static int broken(int[][] plan) {
        if (plan.length < steps.size()) {
            return 100 + plan.length;
        }
        for (int s = 0; s < plan.length; s++) {
            for (int[] out : outs.get(plan[s][1])) {
                if (out[0] < plan[s][0] + steps.get(s)[2] && plan[s][0] < out[1]) {
                    return 400 + s;
                }
            }
        }
        for (int j = 0; j < jobs.size(); j++) {
            int end = 0;
            for (int s = 0; s < plan.length; s++) {
                end = steps.get(s)[0] == j ? plan[s][0] + steps.get(s)[2] : end;
            }
            if (end > jobs.get(j)[0]) {
                return 500 + j;
            }
        }
        return 0;
    }

    private static void edges() {
        TimberHouse x = new TimberHouse();
        Check.due(x, Check.THING, 708, 0, 0);
        Check.due(x, Check.STATE, 709, 0);
        Check.due(x, Check.THING, 710, 4);
        Check.due(x, Check.STATE, 710, 0);
        Check.due(x, Check.STATE, 714);
        Check.due(x, -1, 713, 0);
        Check.due(x, Check.NUMBER, 713, -1);
        Check.due(x, Check.NUMBER, 706, 0);
        Check.due(x, Check.NUMBER, 706, 2001);
        Check.due(x, Check.STATE, 706, 1);
        Check.due(x, Check.NUMBER, 707, 101);
        Check.due(x, Check.STATE, 707, 0);
        Check.due(x, Check.NUMBER, 701, 4);
        Check.due(x, Check.THING, 702, 0, -1, 0);
        Check.due(x, 0, 701, 0);
        Check.due(x, Check.NUMBER, 702, 0, 1001, 1002);
        Check.due(x, Check.NUMBER, 702, 0, 5, 5);
        Check.due(x, Check.NUMBER, 702, 0, 5, 2001);
        for (int i = 1; i <= 8; i++) {
            Check.due(x, i, 702, 0, 1000, 2000);
        }
        Check.due(x, Check.STATE, 702, 0, 1000, 2000);
        Check.due(x, Check.NUMBER, 702, 0, 1000, 2001);
        for (int i = 1; i < 6; i++) {
            Check.due(x, i, 701, 1);
        }
        Check.due(x, Check.STATE, 701, 1);
        Check.due(x, Check.NUMBER, 701, -1);
        Check.due(x, Check.NUMBER, 703, 10001, 0);
        Check.due(x, Check.NUMBER, 703, 0, 101);
        Check.due(x, Check.THING, 704, 0, -1);
        Check.due(x, Check.THING, 705, 0, 9, 9, 9);
        Check.due(x, 0, 703, 10000, 100);
        Check.due(x, Check.NUMBER, 704, 0, 10001);
        Check.due(x, Check.NUMBER, 705, 0, 4, 1, 0);
        Check.due(x, Check.NUMBER, 705, 0, 0, 0, 0);
        Check.due(x, Check.NUMBER, 705, 0, 0, 101, 0);
        Check.due(x, Check.NUMBER, 705, 0, 0, 1, 101);
        Check.due(x, 0, 705, 0, 2, 1, 0);
        Check.due(x, Check.STATE, 711, 0);
        Check.due(x, Check.THING, 711, 1);
        Check.due(x, Check.STATE, 713, 0);
        Check.due(x, Check.STATE, 706, 1);
        Check.due(x, Check.THING, 712, 1);
        Check.due(x, Check.STATE, 712, 0);
    }

    private static void anew() {
        TimberHouse x = new TimberHouse();
        Check.due(x, 0, 703, 5, 1);
        Check.due(x, 0, 706, 1);
        Check.due(x, 0, 712, 0);
        Check.due(x, 0, 707, 0);
        Check.due(x, 0, 704, 0, 5);
        Check.due(x, Check.STATE, 707, 0);
        Check.due(x, Check.STATE, 712, 0);
        Check.due(x, 0, 714);
        Check.due(x, 0, 710, 0);
        Check.due(x, 1, 703, 5, 1);
        Check.due(x, Check.THING, 709, 1);
        Check.due(x, 0, 714);
        Check.due(x, 1, 706, 1);
        Check.due(x, 1, 710, 2);
        Check.due(x, 0, 706, 2);
        Check.due(x, 2, 710, 2);
        Check.due(x, 1, 700, 5);
        Check.due(x, Check.STATE, 714);
        Check.due(x, Check.THING, 711, 0);
        Check.due(x, 0, 703, 5, 1);
        Check.due(x, 0, 701, 1);
        Check.due(x, 0, 705, 0, 1, 3, 0);
        Check.due(x, 0, 706, 5);
        Check.due(x, 1, 710, 3);
    }
}
