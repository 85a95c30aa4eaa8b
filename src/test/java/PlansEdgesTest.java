/** PLANS: each sentence that names a boundary, its last value that is allowed and its first that is not. */
public final class PlansEdgesTest {
    public static void main(String[] args) {
        atFirst();
        fourTimes();
        forgotten();
        seeds();
        machines();
        outs();
        jobs();
        dues();
        stepsTold();
        stepNumbers();
        runsAsked();
        notFitting();
        placedBehind();
        placedOut();
        leastMachine();
        costs();
        firstOrder();
        nodes();
        nodesLeft();
        improveAsked();
        improves();
        toldSince();
        atAsked();
        orderAsked();
        aboutAsked();
        changed();
        aloneAsked();
        promiseAsked();
        promises();
        clashAsked();
        clashes();
        checkAsked();
        checkNew();
        checkOut();
        checkDue();
        full();
        Check.end();
    }

    private static void looks(Twins t) {
        for (int k = 0; k < 4; k++) {
            t.same(708, k, 0);
            t.same(708, k, 1);
            t.same(709, k);
            t.same(710, k);
            t.same(711, k);
            t.same(712, k);
            t.same(713, k);
        }
        t.same(714);
        t.same(707, 3);
        t.same(710, 0);
    }

    /** One machine of kind 0 and jobs of one step each: due, weight, hours, due, weight, hours, .. */
    private static Twins shop(int... jobs) {
        Twins t = new Twins();
        t.due(0, 701, 0);
        for (int i = 0; i < jobs.length; i += 3) {
            t.due(i / 3, 703, jobs[i], jobs[i + 1]);
            t.due(i / 3, 705, i / 3, 0, jobs[i + 2], 0);
        }
        return t;
    }

    private static void atFirst() {
        Twins t = new Twins();
        t.state(706, 1);
        t.state(707, 0);
        t.thing(708, 0, 0);
        t.state(709, 0);
        t.state(710, 0);
        t.thing(711, 0);
        t.thing(712, 0);
        t.due(-1, 713, 0);
        t.state(714);
        looks(t);
    }

    // "1; 0, and nothing, if it was made ANEW 4 times."
    private static void fourTimes() {
        Twins t = new Twins();
        for (int i = 0; i < 4; i++) {
            t.due(1, 700, 3);
        }
        t.due(0, 701, 2);
        t.due(0, 703, 1, 1);
        t.due(0, 705, 0, 2, 5, 0);
        t.due(0, 706, 9);
        t.due(0, 700, 4);
        t.due(4, 710, 0);
        t.due(1, 701, 0);
        t.due(1, 703, 0, 0);
        looks(t);
    }

    // "all that was told it is forgotten"
    private static void forgotten() {
        Twins t = shop(1, 1, 5);
        t.due(1, 702, 0, 0, 9);
        t.due(0, 706, 9);
        t.due(1, 700, 1);
        t.state(710, 0);
        t.state(714);
        t.state(709, 0);
        t.thing(711, 0);
        t.thing(708, 0, 0);
        t.thing(702, 0, 0, 9);
        t.state(706, 9);
        t.due(0, 701, 0);
        t.due(0, 703, 1, 1);
        t.due(0, 711, 0);
        t.due(0, 705, 0, 0, 5, 0);
        t.due(0, 706, 9);
        t.due(0, 708, 0, 0);
        t.due(1, 710, 3);
        t.due(4, 710, 0);
        // What is placed as the PLAN of before was is in none now all the same.
        Twins s = shop(1, 1, 5, 2, 1, 5);
        s.due(0, 706, 9);
        s.due(2, 710, 3);
        s.due(1, 700, 1);
        s.due(0, 701, 0);
        for (int job = 0; job < 2; job++) {
            s.due(job, 703, 1 + job, 1);
            s.due(job, 705, job, 0, 5, 0);
        }
        s.due(0, 706, 9);
        s.due(2, 710, 3);
        s.due(0, 706, 9);
        s.due(0, 710, 3);
        looks(t);
    }

    // "(At first: 1.) A SEED."; "x becomes x * 6364136223846793005 + 1442695040888963407 (wrapped; SEED at first, it goes on
    // from call to call); a is (x >>> 33) modulo the number of jobs; once more so for b"
    private static void seeds() {
        int[] told = {1, 0, -1, 2147483647, -2147483648, 77};
        for (int seed : told) {
            Twins t = new Twins();
            if (seed != 1) {
                t.due(1, 700, seed);
            }
            t.due(0, 701, 0);
            int[] hours = {50, 30, 20, 10, 9, 8};
            for (int job = 0; job < 6; job++) {
                t.due(job, 703, 0, 1);
                t.due(job, 705, job, 0, hours[job], 0);
            }
            t.due(1, 706, 1);
            long x = seed;
            int[] order = {0, 1, 2, 3, 4, 5};
            int[] counts = {1, 0, 2, 1, 5, 3};
            for (int n : counts) {
                int less = 0;
                for (int i = 0; i < n; i++) {
                    x = x * 6364136223846793005L + 1442695040888963407L;
                    int a = (int) ((x >>> 33) % 6);
                    x = x * 6364136223846793005L + 1442695040888963407L;
                    int b = (int) ((x >>> 33) % 6);
                    if (a < b ? hours[order[b]] < hours[order[a]] : hours[order[a]] < hours[order[b]]) {
                        int held = order[a];
                        order[a] = order[b];
                        order[b] = held;
                        less++;
                    }
                }
                t.due(less, 707, n);
                for (int k = 0; k < 6; k++) {
                    t.due(order[k], 709, k);
                }
            }
        }
    }

    // "IllegalArgumentException: kind is not 0 .. 3; IllegalStateException: there are 6."
    private static void machines() {
        Twins t = new Twins();
        t.number(701, -1);
        t.number(701, 4);
        t.thing(702, 0, 0, 1);
        for (int i = 0; i < 6; i++) {
            t.due(i, 701, i % 4);
        }
        t.state(701, 0);
        t.state(701, 3);
        t.number(701, 4);
        t.number(701, -1);
        t.thing(702, 6, 0, 1);
        t.due(1, 702, 5, 0, 1);
        looks(t);
    }

    // "IndexOutOfBoundsException; IllegalArgumentException: from is not 0 .. 1000, or to not above it, or above 2000;
    // IllegalStateException: there are 8."; "8 at most each"
    private static void outs() {
        Twins t = new Twins();
        t.thing(702, 0, 0, 1);
        t.due(0, 701, 0);
        t.due(1, 701, 0);
        t.thing(702, 2, 0, 1);
        t.thing(702, -1, 0, 1);
        t.thing(702, 2, -1, 0);
        t.number(702, 0, -1, 1);
        t.number(702, 0, 1001, 1002);
        t.number(702, 0, 5, 5);
        t.number(702, 0, 5, 4);
        t.number(702, 0, 0, 0);
        t.number(702, 0, 0, 2001);
        t.number(702, 0, 1000, 1000);
        t.number(702, 0, 2147483647, -2147483648);
        t.due(1, 702, 0, 0, 1);
        t.due(2, 702, 0, 1000, 1001);
        t.due(3, 702, 0, 1000, 2000);
        t.due(4, 702, 0, 0, 2000);
        for (int i = 5; i <= 8; i++) {
            t.due(i, 702, 0, 5, 6);
        }
        t.state(702, 0, 5, 6);
        t.number(702, 0, 5, 5);
        t.number(702, 0, -1, 6);
        t.due(1, 702, 1, 5, 6);
        t.thing(702, 2, 5, 6);
        looks(t);
        // A span that has no room on the one machine is none of the other one's.
        Twins s = new Twins();
        s.due(0, 701, 0);
        s.due(1, 701, 1);
        for (int i = 1; i <= 8; i++) {
            s.due(i, 702, 1, 10 * i, 10 * i + 9);
            s.due(i, 702, 0, 10 * i, 10 * i + 9);
        }
        s.state(702, 0, 18, 19);
        s.state(702, 1, 18, 19);
        for (int job = 0; job < 2; job++) {
            s.due(job, 703, 0, 1);
            s.due(job, 705, job, job, 11, 0);
            s.due(89 + 11, 711, job);
        }
        s.due(0, 706, 2000);
        looks(s);
    }

    // "IllegalArgumentException: due is not 0 .. 10000, or weight not 0 .. 100; IllegalStateException: there are 6."
    private static void jobs() {
        Twins t = new Twins();
        t.number(703, -1, 0);
        t.number(703, 10001, 0);
        t.number(703, 0, -1);
        t.number(703, 0, 101);
        t.state(706, 5);
        t.due(0, 703, 0, 0);
        t.due(1, 703, 10000, 100);
        for (int i = 2; i < 6; i++) {
            t.due(i, 703, i, i);
        }
        t.state(703, 0, 0);
        t.number(703, -1, 0);
        t.number(703, 0, 101);
        t.thing(704, 6, 0);
        t.thing(711, 6);
        t.due(0, 706, 2000);
        t.thing(709, 6);
        looks(t);
    }

    // "Another DUE hour. IndexOutOfBoundsException; IllegalArgumentException: due is not 0 .. 10000."
    private static void dues() {
        Twins t = shop(3, 2, 5);
        t.thing(704, 1, 5);
        t.thing(704, -1, 5);
        t.thing(704, 1, -1);
        t.number(704, 0, -1);
        t.number(704, 0, 10001);
        t.due(4, 711, 0);
        t.due(0, 704, 0, 0);
        t.due(10, 711, 0);
        t.due(0, 704, 0, 10000);
        t.due(0, 711, 0);
        t.due(0, 704, 0, 10000);
        looks(t);
    }

    // "IndexOutOfBoundsException; IllegalArgumentException: kind is not 0 .. 3, hours not 1 .. 100, or wait not 0 .. 100;
    // IllegalStateException: the job has 4."
    private static void stepsTold() {
        Twins t = new Twins();
        t.thing(705, 0, 0, 1, 0);
        t.due(0, 701, 3);
        t.due(0, 703, 0, 1);
        t.thing(705, 1, 0, 1, 0);
        t.thing(705, -1, 0, 1, 0);
        t.thing(705, 1, 4, 0, -1);
        t.number(705, 0, -1, 1, 0);
        t.number(705, 0, 4, 1, 0);
        t.number(705, 0, 0, 0, 0);
        t.number(705, 0, 0, 101, 0);
        t.number(705, 0, 0, 1, -1);
        t.number(705, 0, 0, 1, 101);
        t.due(0, 711, 0);
        t.thing(708, 0, 0);
        t.due(0, 705, 0, 3, 100, 100);
        t.due(1, 705, 0, 3, 1, 0);
        t.due(201, 711, 0);
        t.due(2, 705, 0, 3, 1, 7);
        t.due(202, 711, 0);
        t.due(3, 705, 0, 3, 1, 9);
        t.due(210, 711, 0);
        t.state(705, 0, 3, 1, 0);
        t.number(705, 0, 4, 1, 0);
        t.number(705, 0, 0, 0, 0);
        t.number(705, 0, 0, 1, 101);
        t.due(210, 711, 0);
        looks(t);
    }

    // "STEPS have numbers 0, 1, .. as they are told, of all jobs"
    private static void stepNumbers() {
        Twins t = new Twins();
        t.due(0, 701, 1);
        t.due(0, 703, 9, 1);
        t.due(1, 703, 0, 1);
        t.due(0, 705, 1, 1, 2, 0);
        t.due(1, 705, 0, 1, 3, 0);
        t.due(2, 705, 1, 1, 4, 0);
        t.due(0, 706, 2000);
        // Job 1 first, by DUE: hours 0 and 2, then job 0.
        t.due(0, 708, 0, 0);
        t.due(2, 708, 2, 0);
        t.due(6, 708, 1, 0);
        t.thing(708, 3, 0);
        t.thing(708, -1, 0);
        looks(t);
    }

    // "RUN. IllegalArgumentException: nodes are not 1 .. 2000; IllegalStateException: there are no jobs, or one does not FIT."
    private static void runsAsked() {
        Twins t = new Twins();
        t.number(706, 0);
        t.number(706, 2001);
        t.number(706, -1);
        t.state(706, 1);
        t.state(706, 2000);
        t.due(0, 703, 0, 0);
        t.number(706, 0);
        t.number(706, 2001);
        t.state(710, 0);
        t.due(0, 706, 1);
        t.due(0, 706, 2000);
        t.number(706, 2001);
        t.due(1, 710, 2);
        looks(t);
    }

    // "A job FITS if there is a machine for each of its STEPS."
    private static void notFitting() {
        Twins t = shop(5, 1, 5);
        t.due(0, 706, 9);
        t.due(1, 703, 5, 1);
        t.due(1, 705, 1, 0, 1, 0);
        t.due(2, 705, 1, 3, 1, 0);
        t.state(706, 9);
        t.state(711, 1);
        t.due(0, 711, 0);
        t.state(713, 0);
        t.due(0, 708, 0, 0);
        t.due(-1, 708, 1, 0);
        t.due(1, 701, 2);
        t.state(706, 9);
        t.due(2, 701, 3);
        t.same(706, 99);
        t.due(0, 711, 1);
        looks(t);
    }

    // "not before the job's STEP before it has ended and waited, and so that it shares no hour with a STEP that is placed on
    // that machine"
    private static void placedBehind() {
        Twins t = new Twins();
        t.due(0, 701, 0);
        t.due(0, 703, 0, 1);
        t.due(0, 705, 0, 0, 5, 3);
        t.due(1, 705, 0, 0, 2, 100);
        t.due(1, 703, 1, 1);
        t.due(2, 705, 1, 0, 3, 0);
        t.due(2, 703, 2, 1);
        t.due(3, 705, 2, 0, 4, 0);
        t.due(1, 706, 1);
        int[] want = {0, 8, 5, 10};
        for (int k = 0; k < 4; k++) {
            t.due(want[k], 708, k, 0);
            t.due(0, 708, k, 1);
        }
        t.due(10 + 7 + 12, 710, 0);
        looks(t);
    }

    // "or with a span in which that is OUT"; "OUT from an hour up to another one (not with it)"
    private static void placedOut() {
        int[][] told = {{0, 1, 1}, {4, 5, 5}, {5, 6, 0}, {3, 9, 9}, {0, 2000, 2000}, {1000, 2000, 0}, {4, 6, 6}};
        for (int[] v : told) {
            Twins t = shop(0, 1, 5);
            t.due(1, 702, 0, v[0], v[1]);
            t.due(0, 706, 9);
            t.due(v[2], 708, 0, 0);
            t.due(v[2] + 5, 710, 0);
            t.due(v[2] + 5, 711, 0);
        }
        // Between two spans there is just as much room as is needed, or an hour less; in any order, also one in another.
        Twins t = shop(0, 1, 5);
        t.due(1, 702, 0, 14, 20);
        t.due(2, 702, 0, 0, 9);
        t.due(3, 702, 0, 2, 4);
        t.due(0, 706, 9);
        t.due(9, 708, 0, 0);
        t.due(4, 702, 0, 13, 14);
        t.due(0, 706, 9);
        t.due(20, 708, 0, 0);
        t.due(5, 702, 0, 24, 30);
        t.due(0, 706, 9);
        t.due(30, 708, 0, 0);
        looks(t);
    }

    // "of several machines the least"
    private static void leastMachine() {
        Twins t = new Twins();
        t.due(0, 701, 1);
        t.due(1, 701, 0);
        t.due(2, 701, 0);
        t.due(0, 703, 0, 1);
        t.due(1, 703, 1, 1);
        t.due(2, 703, 2, 1);
        for (int job = 0; job < 3; job++) {
            t.due(job, 705, job, 0, 5 - job, 0);
        }
        t.due(1, 706, 1);
        int[][] want = {{0, 1}, {0, 2}, {4, 2}};
        for (int k = 0; k < 3; k++) {
            t.due(want[k][0], 708, k, 0);
            t.due(want[k][1], 708, k, 1);
        }
        // With which it begins first: the greater one, if the lesser one is OUT.
        t.due(1, 702, 1, 3, 4);
        t.due(1, 706, 1);
        t.due(2, 708, 0, 1);
        t.due(1, 708, 1, 1);
        t.due(4, 708, 1, 0);
        looks(t);
    }

    // "its COST is WEIGHT for each hour that its END is behind DUE"; "A job's END is that of its last STEP (0 without STEPS)"
    private static void costs() {
        int[][] told = {{5, 7, 0}, {6, 7, 0}, {4, 7, 7}, {0, 7, 35}, {10000, 100, 0}, {0, 100, 500}, {0, 0, 0}};
        for (int[] v : told) {
            Twins t = shop(v[0], v[1], 5);
            t.due(v[2], 711, 0);
            t.due(0, 706, 5);
            t.due(v[2], 710, 0);
            t.due(v[2], 710, 1);
        }
        Twins t = new Twins();
        t.due(0, 703, 0, 100);
        t.due(0, 711, 0);
        t.due(0, 706, 5);
        t.due(0, 710, 0);
        t.due(0, 712, 0);
        t.due(0, 714);
        // A WAIT behind the last STEP is not its END.
        Twins s = new Twins();
        s.due(0, 701, 0);
        s.due(0, 703, 0, 1);
        s.due(0, 705, 0, 0, 5, 100);
        s.due(5, 711, 0);
        looks(s);
    }

    // "the best ORDER is at first that by DUE (of several the lesser job first)"
    private static void firstOrder() {
        Twins t = shop(7, 0, 1, 3, 0, 1, 7, 0, 1, 3, 0, 1, 0, 0, 1, 10000, 0, 1);
        int[] want = {4, 1, 3, 0, 2, 5};
        t.due(0, 706, 2000);
        t.due(6, 710, 2);
        for (int k = 0; k < 6; k++) {
            t.due(want[k], 709, k);
            t.due(k, 708, want[k], 0);
        }
        looks(t);
    }

    // "each begun ORDER .. is a NODE, counted; it is left if the COST of its jobs and ALONE of all others come to the best
    // COST or more; .. RUN ends at once if a NODE would be one more than told (1), else it is CLOSED (0)."
    private static void nodes() {
        Twins t = shop(0, 1, 3, 0, 1, 2);
        // By DUE: 3 + 5 = 8. Job 0 (3, and 2 alone): gone on from; 0 1 is 8: left; job 1 (2 and 3): gone on from; 1 0 is 7.
        t.due(0, 706, 4);
        t.due(4, 710, 2);
        t.due(7, 710, 0);
        t.due(5, 710, 1);
        t.due(1, 709, 0);
        t.due(1, 706, 3);
        t.due(3, 710, 2);
        t.due(8, 710, 0);
        t.due(0, 709, 0);
        t.due(1, 706, 1);
        t.due(1, 710, 2);
        t.due(0, 706, 2000);
        t.due(4, 710, 2);
        looks(t);
    }

    private static void nodesLeft() {
        // As much as the best one is left: of two equal jobs the first order stays, and no node goes on that can't be less.
        Twins t = shop(0, 1, 2, 0, 1, 2);
        t.due(0, 706, 2000);
        // 6 by DUE: job 0 comes to 2 + 2, gone on from; 0 1 to 6: left; job 1 to 4, gone on from; 1 0 to 6: left.
        t.due(4, 710, 2);
        t.due(0, 709, 0);
        Twins s = shop(2, 1, 2, 2, 1, 2);
        // 2 by DUE; 0 and 0 alone.
        s.due(0, 706, 2000);
        s.due(4, 710, 2);
        s.due(2, 710, 0);
        s.due(0, 710, 1);
        Twins r = shop(2, 1, 2, 4, 1, 2);
        r.due(0, 706, 2);
        r.due(2, 710, 2);
        r.due(1, 706, 1);
        r.due(1, 710, 2);
        r.due(0, 710, 0);
        looks(t);
    }

    // "IllegalArgumentException: n is not 0 .. 100; IllegalStateException: no PLAN, or something was told since that one"
    private static void improveAsked() {
        Twins t = shop(0, 1, 3, 0, 1, 2);
        t.number(707, -1);
        t.number(707, 101);
        t.state(707, 0);
        t.state(707, 100);
        t.due(1, 706, 1);
        t.number(707, 101);
        t.number(707, -1);
        t.due(0, 707, 0);
        t.due(0, 710, 3);
        t.due(8, 710, 0);
        t.due(1, 707, 100);
        t.due(7, 710, 0);
        t.due(2, 710, 3);
        t.due(0, 707, 100);
        t.due(0, 710, 3);
        t.due(1, 710, 2);
        t.due(5, 710, 1);
        looks(t);
    }

    // "the PLAN's jobs at a and b change places if the COST is less then"
    private static void improves() {
        // As much is not less: the order stays.
        Twins t = shop(0, 1, 2, 0, 1, 2, 0, 1, 2);
        t.due(1, 706, 1);
        t.due(0, 707, 100);
        for (int k = 0; k < 3; k++) {
            t.due(k, 709, k);
        }
        // One job alone changes with itself.
        Twins s = shop(0, 1, 2);
        s.due(0, 706, 5);
        s.due(0, 707, 100);
        s.due(0, 709, 0);
        s.due(0, 710, 3);
        looks(t);
    }

    // "(a machine, a span, a job, a DUE hour, be it the same, a step)"
    private static void toldSince() {
        int[][] tells = {{701, 0}, {702, 0, 5, 6}, {703, 0, 0}, {704, 0, 5}, {705, 0, 0, 1, 0}};
        int[] answers = {1, 1, 1, 0, 1};
        for (int i = 0; i < tells.length; i++) {
            Twins t = shop(5, 1, 2);
            t.due(0, 706, 5);
            t.due(2, 712, 0);
            t.number(701, 4);
            t.thing(702, 9, 5, 6);
            t.number(703, -1, 0);
            t.thing(704, 9, 0);
            t.number(705, 0, 9, 9, 9);
            t.due(0, 707, 1);
            t.due(answers[i], tells[i]);
            t.state(707, 1);
            t.state(707, 0);
            t.number(707, 101);
            t.state(712, 0);
            // What asks for the PLAN alone answers on.
            t.due(0, 708, 0, 0);
            t.due(0, 709, 0);
            t.due(0, 710, 0);
            t.due(0, 706, 50);
            t.due(0, 707, 1);
            t.same(712, 0);
            looks(t);
        }
    }

    // "the hour in which it begins (what = 0), the machine (1); NONE if it was told behind the PLAN.
    // IndexOutOfBoundsException; IllegalStateException: no PLAN."
    private static void atAsked() {
        Twins t = shop(5, 1, 2);
        t.thing(708, 1, 0);
        t.thing(708, -1, 0);
        t.thing(708, 0, 2);
        t.thing(708, 0, -1);
        t.state(708, 0, 0);
        t.state(708, 0, 1);
        t.due(0, 706, 5);
        t.due(0, 708, 0, 0);
        t.due(0, 708, 0, 1);
        t.due(1, 705, 0, 0, 1, 0);
        t.due(-1, 708, 1, 0);
        t.due(-1, 708, 1, 1);
        t.due(0, 708, 0, 0);
        t.thing(708, 2, 0);
        t.thing(708, 1, 2);
        t.due(0, 706, 5);
        t.due(2, 708, 1, 0);
        looks(t);
    }

    // "IllegalStateException: no PLAN (first); IndexOutOfBoundsException."
    private static void orderAsked() {
        Twins t = shop(5, 1, 2, 0, 1, 2);
        t.state(709, 0);
        t.state(709, -1);
        t.state(709, 99);
        t.due(0, 706, 50);
        t.due(1, 709, 0);
        t.due(0, 709, 1);
        t.thing(709, 2);
        t.thing(709, -1);
        t.due(2, 703, 0, 0);
        t.thing(709, 2);
        t.due(0, 706, 50);
        t.same(709, 2);
        t.thing(709, 3);
        looks(t);
    }

    // "IndexOutOfBoundsException; IllegalStateException: no PLAN."
    private static void aboutAsked() {
        Twins t = shop(1, 3, 2, 4, 1, 5);
        t.thing(710, 4);
        t.thing(710, -1);
        t.state(710, 0);
        t.state(710, 3);
        t.due(0, 706, 50);
        t.due(3 + 3, 710, 0);
        t.due(3 + 1, 710, 1);
        t.due(2, 710, 3);
        t.thing(710, 4);
        t.thing(710, -1);
        // The PLAN's COST stays though DUE is another one.
        t.due(0, 704, 0, 0);
        t.due(6, 710, 0);
        t.due(4, 710, 1);
        looks(t);
    }

    // "how many STEPS have another hour or machine than in the PLAN that there was before that RUN or IMPROVED, or were in
    // none"
    private static void changed() {
        Twins t = shop(5, 1, 2, 0, 1, 2);
        t.due(0, 706, 50);
        t.due(2, 710, 3);
        t.due(0, 706, 50);
        t.due(0, 710, 3);
        t.due(2, 705, 0, 0, 3, 0);
        t.due(0, 710, 3);
        t.due(0, 706, 50);
        t.due(1, 710, 3);
        // Another machine of the same hours: what was on 0 goes to it.
        t.due(1, 701, 0);
        t.due(1, 702, 0, 0, 100);
        t.due(0, 706, 50);
        t.due(3, 710, 3);
        t.due(1, 708, 0, 1);
        t.due(1, 702, 1, 2, 3);
        t.same(706, 50);
        t.same(710, 3);
        // Another kind of machine changes nothing.
        t.due(2, 701, 3);
        t.same(706, 50);
        t.due(0, 710, 3);
        looks(t);
    }

    // "ALONE of a job, as things are. IndexOutOfBoundsException; IllegalStateException: it does not FIT."
    private static void aloneAsked() {
        Twins t = shop(1, 3, 5);
        t.thing(711, 1);
        t.thing(711, -1);
        t.due(12, 711, 0);
        t.due(1, 703, 0, 7);
        t.due(0, 711, 1);
        t.due(1, 705, 1, 2, 1, 0);
        t.state(711, 1);
        t.thing(711, 2);
        t.due(12, 711, 0);
        t.due(1, 701, 2);
        t.due(7, 711, 1);
        t.due(1, 702, 0, 0, 2);
        t.due(18, 711, 0);
        looks(t);
    }

    // "IndexOutOfBoundsException; IllegalStateException: no PLAN, or something was told since (as improve())."
    private static void promiseAsked() {
        Twins t = shop(5, 1, 2, 5, 1, 3);
        t.thing(712, 2);
        t.thing(712, -1);
        t.state(712, 0);
        t.due(0, 706, 50);
        t.due(2, 712, 0);
        t.due(5, 712, 1);
        t.thing(712, 2);
        t.thing(712, -1);
        t.due(0, 704, 0, 5);
        t.state(712, 0);
        t.thing(712, 2);
        looks(t);
    }

    // "the END that it would have if it were taken out of the PLAN, and placed again with all others as they are"
    private static void promises() {
        // Jobs 0 (4 hours), 1 (3) and 2 (4) behind one another: in the gap of job 1 only itself has room.
        Twins t = shop(0, 9, 4, 5, 9, 3, 9, 9, 4);
        t.due(1, 706, 1);
        t.due(4, 712, 0);
        t.due(7, 712, 1);
        t.due(11, 712, 2);
        t.due(0, 708, 0, 0);
        t.due(4, 708, 1, 0);
        t.due(7, 708, 2, 0);
        // A span of two hours makes a gap ahead of job 1: none of 3 hours fits it, and the PLAN is left as it is.
        Twins s = shop(0, 9, 1, 5, 9, 3);
        s.due(1, 702, 0, 3, 4);
        s.due(1, 706, 1);
        s.due(4, 708, 1, 0);
        s.due(1, 712, 0);
        s.due(7, 712, 1);
        s.due(4, 708, 1, 0);
        s.due(2, 703, 0, 0);
        s.state(712, 2);
        s.same(706, 1);
        s.due(0, 712, 2);
        // What was looked at apart since then is none of the others.
        Twins q = shop(0, 9, 4, 5, 9, 3, 9, 9, 4);
        q.due(1, 706, 1);
        for (int job = 0; job < 3; job++) {
            for (int other = 0; other < 3; other++) {
                q.same(711, other);
                q.due(new int[] {4, 7, 11}[job], 712, job);
                q.same(713, other);
                q.due(new int[] {4, 7, 11}[job], 712, job);
                q.due(new int[] {4, 7, 11}[other], 712, other);
            }
        }
        q.due(0, 708, 0, 0);
        q.due(4, 708, 1, 0);
        q.due(7, 708, 2, 0);
        // A job whose own steps leave a gap that it may go into when it is placed again.
        Twins r = new Twins();
        r.due(0, 701, 0);
        r.due(0, 703, 0, 1);
        r.due(0, 705, 0, 0, 3, 2);
        r.due(1, 705, 0, 0, 3, 0);
        r.due(1, 703, 1, 1);
        r.due(2, 705, 1, 0, 2, 0);
        r.due(1, 706, 1);
        r.due(3, 708, 2, 0);
        r.due(8, 712, 0);
        r.due(5, 712, 1);
        looks(t);
    }

    // "CLASH k as 8 times the lesser job and the other one; NONE if there are not so many. IllegalArgumentException: k is
    // below 0; IllegalStateException: a job does not FIT."
    private static void clashAsked() {
        Twins t = new Twins();
        t.number(713, -1);
        t.number(713, -2147483648);
        t.due(-1, 713, 0);
        t.due(-1, 713, 2147483647);
        t.due(0, 703, 5, 1);
        t.due(0, 705, 0, 0, 1, 0);
        t.state(713, 0);
        t.state(713, 99);
        t.number(713, -1);
        t.due(0, 701, 0);
        t.due(-1, 713, 0);
        looks(t);
    }

    // "A CLASH is two jobs with ALONE 0 each, of which in neither ORDER of these two alone both have COST 0; CLASHES by the
    // lesser job, then by the other."
    private static void clashes() {
        int[][] told = {{5, 10, 0}, {5, 9, 1}, {9, 9, 1}, {10, 5, 0}, {9, 5, 1}, {10, 10, 0}, {4, 9, 0}, {9, 4, 0}, {4, 4, 0}};
        for (int[] v : told) {
            Twins t = shop(v[0], 1, 5, v[1], 1, 5);
            t.due(v[2] == 0 ? -1 : 1, 713, 0);
            t.due(-1, 713, 1);
        }
        // Without a WEIGHT there is no COST, and so no CLASH.
        shop(5, 0, 5, 5, 1, 5).due(-1, 713, 0);
        shop(5, 1, 5, 5, 0, 5).due(-1, 713, 0);
        Twins t = shop(5, 1, 5, 5, 1, 5, 10000, 1, 5, 6, 1, 5);
        t.due(1, 713, 0);
        t.due(3, 713, 1);
        t.due(8 + 3, 713, 2);
        t.due(-1, 713, 3);
        looks(t);
    }

    // "0, or 100 times the RULE and the STEP (of rule 5: the job) that breaks it. IllegalStateException: no PLAN."
    private static void checkAsked() {
        Twins t = shop(5, 1, 2, 9, 1, 2);
        t.state(714);
        t.due(0, 706, 50);
        t.due(0, 714);
        looks(t);
    }

    // "1 a STEP that is not in the PLAN"
    private static void checkNew() {
        Twins t = shop(5, 1, 2, 9, 1, 2);
        t.due(0, 706, 50);
        t.due(1, 702, 0, 0, 9);
        t.due(0, 704, 0, 0);
        t.due(400, 714);
        t.due(2, 705, 1, 0, 1, 0);
        t.due(102, 714);
        t.due(3, 705, 0, 0, 1, 0);
        t.due(102, 714);
        t.same(706, 50);
        t.same(714);
        looks(t);
    }

    // "4 with a span in which that is OUT"
    private static void checkOut() {
        int[][] told = {{0, 2, 0}, {0, 3, 401}, {4, 5, 401}, {5, 6, 0}, {2, 5, 401}, {3, 4, 401}, {0, 1, 400 - 400}, {1000, 2000, 0}, {1, 2000, 401}};
        for (int[] v : told) {
            // Job 1 on machine 0 from 2 to 5; job 0, placed first, on it from 0 to 2 is told without a span of its own.
            Twins t = new Twins();
            t.due(0, 701, 1);
            t.due(1, 701, 0);
            t.due(0, 703, 9, 1);
            t.due(0, 705, 0, 0, 2, 0);
            t.due(1, 705, 0, 1, 3, 0);
            t.due(0, 706, 50);
            t.due(0, 714);
            t.due(1, 702, 0, v[0], v[1]);
            t.due(v[2], 714);
            t.due(1, 702, 1, 2, 2000);
            t.due(v[2], 714);
            t.due(2, 702, 1, 1, 2);
            t.due(400, 714);
        }
    }

    // "5 a job's END is behind DUE"
    private static void checkDue() {
        Twins t = shop(5, 1, 2, 9, 1, 2);
        t.due(0, 706, 50);
        t.due(0, 704, 1, 4);
        t.due(0, 714);
        t.due(0, 704, 1, 3);
        t.due(501, 714);
        t.due(0, 704, 0, 2);
        t.due(501, 714);
        t.due(0, 704, 0, 1);
        t.due(500, 714);
        // Without STEPS the END is 0; ahead of it comes rule 4.
        t.due(2, 703, 0, 5);
        t.due(500, 714);
        t.due(1, 702, 0, 3, 4);
        t.due(401, 714);
        looks(t);
    }

    /** As many machines, spans, jobs and steps as there may be. */
    private static void full() {
        Twins t = new Twins();
        for (int m = 0; m < 6; m++) {
            t.due(m, 701, 0);
            for (int i = 0; i < 8; i++) {
                t.due(i + 1, 702, m, 100 * i, 100 * i + 1);
            }
        }
        int number = 0;
        for (int job = 0; job < 6; job++) {
            t.due(job, 703, 10000, 100);
            for (int i = 0; i < 4; i++) {
                t.due(number++, 705, job, 0, 100, 100);
            }
        }
        t.state(703, 0, 0);
        t.state(705, 5, 0, 1, 0);
        t.thing(708, 24, 0);
        t.due(0, 706, 2000);
        t.due(24, 710, 3);
        t.due(6, 710, 2);
        t.due(701, 708, 0, 0);
        t.due(0, 708, 0, 1);
        t.due(701 + 3 * 200, 708, 23, 0);
        t.due(5, 708, 23, 1);
        t.due(0, 714);
        t.due(0, 707, 100);
        looks(t);
        oneMachine();
    }

    /** All steps one behind the other on one machine, between and behind all its spans. */
    private static void oneMachine() {
        Twins t = new Twins();
        t.due(0, 701, 3);
        for (int i = 0; i < 8; i++) {
            t.due(i + 1, 702, 0, 50 * i, 50 * i + 10);
        }
        int number = 0;
        for (int job = 0; job < 6; job++) {
            t.due(job, 703, job, 100);
            for (int i = 0; i < 4; i++) {
                t.due(number++, 705, job, 3, 40 + 60 * (job / 5), 0);
            }
        }
        t.due(1, 706, 1);
        // Eight steps of 40 hours fill the gaps and go on from 360; so do all others from there.
        for (int k = 0; k < 20; k++) {
            t.due(k < 7 ? 10 + 50 * k : 360 + 40 * (k - 7), 708, k, 0);
        }
        for (int k = 20; k < 24; k++) {
            t.due(360 + 40 * 13 + 100 * (k - 20), 708, k, 0);
        }
        t.due(500, 714);
        looks(t);
    }
}
