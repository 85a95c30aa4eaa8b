import java.util.ArrayList;
import java.util.LinkedHashSet;
import java.util.List;
import java.util.Random;
import java.util.Set;

/** SHOP against sets and entries kept otherwise, and the edges that the document names. */
public final class ShopTest {
    /** Tellings as teller, number, thing, kind, value, on. */
    private static final List<int[]> told = new ArrayList<>();
    private static final List<LinkedHashSet<int[]>> sets = new ArrayList<>();
    private static final List<List<int[]>> batches = new ArrayList<>();

    public static void main(String[] args) {
        Random random = new Random(14);
        for (int i = 0; i < 400; i++) {
            joins(random);
            books(random);
        }
        marks();
        rooms();
        entries();
        edges();
        Check.end();
    }

    private static int[] latest(Iterable<int[]> set, int thing, int kind, int on) {
        int[] best = null;
        for (int[] t : set) {
            if (t[2] == thing && t[3] == kind && t[5] <= on) {
                int how = best == null ? 1 : Integer.compare(t[5], best[5]);
                how = how == 0 ? Integer.compare(t[0], best[0]) : how;
                how = how == 0 ? Integer.compare(t[1], best[1]) : how;
                best = how > 0 ? t : best;
            }
        }
        return best;
    }

    private static long known(Iterable<int[]> set, int thing, int kind, int on) {
        long sum = 0;
        List<int[]> marks = new ArrayList<>();
        for (int[] t : set) {
            if (t[2] == thing && t[3] == kind && t[5] <= on) {
                sum += t[4];
                marks.add(t);
            }
        }
        if (kind == 0) {
            return sum;
        }
        int[] last = latest(set, thing, kind, on);
        if (kind != 2) {
            return last == null ? 0 : last[4];
        }
        List<int[]> settles = new ArrayList<>();
        for (int[] t : set) {
            boolean behind = t[2] == thing && t[3] == 3 && t[5] <= on;
            for (int[] m : marks) {
                behind &= t[5] >= m[5];
            }
            if (behind) {
                settles.add(t);
            }
        }
        if (!settles.isEmpty()) {
            return latest(settles, thing, 3, on)[4];
        }
        return marks.stream().map(m -> m[4]).distinct().count() == 1 ? marks.get(0)[4] : 0;
    }

    private static boolean conflicts(Iterable<int[]> set, int thing) {
        int[] settle = latest(set, thing, 3, Integer.MAX_VALUE);
        int[] mark = latest(set, thing, 2, Integer.MAX_VALUE);
        boolean unlike = false;
        for (int[] t : set) {
            unlike |= t[2] == thing && t[3] == 2 && t[4] != mark[4];
        }
        return unlike && (settle == null || settle[5] < mark[5]);
    }

    private static void joins(Random random) {
        TimberHouse x = new TimberHouse();
        told.clear();
        sets.clear();
        batches.clear();
        boolean[][] rights = new boolean[4][4];
        for (int i = 0; i < 60; i++) {
            int how = random.nextInt(20);
            int one = sets.isEmpty() ? 0 : random.nextInt(sets.size());
            int other = sets.isEmpty() ? 0 : random.nextInt(sets.size());
            if (how < 11) {
                int[] t = {random.nextInt(3), random.nextInt(30) - 5, random.nextInt(2), random.nextInt(4), random.nextInt(5) - 1, random.nextInt(6)};
                boolean was = told.stream().anyMatch(o -> o[0] == t[0] && o[1] == t[1]);
                Check.due(x, was ? 0 : 1, 901, t[0], t[1], t[2], t[3], t[4], t[5]);
                if (!was) {
                    told.add(t);
                }
            } else if (how == 11 && sets.size() < 8) {
                int teller = random.nextInt(3);
                LinkedHashSet<int[]> set = new LinkedHashSet<>();
                told.stream().filter(t -> t[0] == teller).sorted((a, b) -> Integer.compare(a[1], b[1])).forEach(set::add);
                Check.due(x, sets.size(), 902, teller);
                sets.add(set);
                batches.add(null);
            } else if (how < 15 && !sets.isEmpty()) {
                int before = sets.get(one).size();
                sets.get(one).addAll(new ArrayList<>(sets.get(other)));
                Check.due(x, sets.get(one).size() - before, 903, one, other);
            } else if (how < 17 && !sets.isEmpty()) {
                boolean open = random.nextBoolean();
                Check.due(x, open == (batches.get(one) == null) ? 1 : 0, 909, one, open ? 2 : 0);
                if (open && batches.get(one) == null) {
                    batches.set(one, new ArrayList<>(sets.get(one)));
                } else if (!open) {
                    batches.set(one, null);
                }
            } else if (how < 18) {
                int person = random.nextInt(4);
                int kind = random.nextInt(4);
                boolean on = random.nextInt(4) > 0;
                Check.due(x, rights[person][kind] == on ? 0 : 1, 910, person, kind, on ? -3 : 0);
                rights[person][kind] = on;
            } else if (!sets.isEmpty() && Check.left(x) > 280) {
                looks(x, one, other, rights, random);
            }
        }
    }

    private static void looks(TimberHouse x, int one, int other, boolean[][] rights, Random random) {
        Set<int[]> set = sets.get(one);
        boolean same = set.equals(sets.get(other));
        Check.due(x, same ? 1 : 0, 904, one, other);
        Check.due(x, set.size(), 907, one);
        int k = 0;
        for (int thing = 0; thing < 10; thing++) {
            for (int kind = 0; kind < 4; kind++) {
                int on = random.nextInt(7) - 1;
                Check.due(x, known(set, thing, kind, on), 905, one, thing, kind, on);
                int person = random.nextInt(4);
                Iterable<int[]> seen = batches.get(one) == null ? set : batches.get(one);
                Check.due(x, rights[person][kind] ? known(seen, thing, kind, Integer.MAX_VALUE) : Check.STATE, 911, person, one, thing, kind);
            }
            if (conflicts(set, thing)) {
                Check.due(x, thing, 906, one, k);
                k++;
            }
        }
        Check.due(x, -1, 906, one, k);
        int mark = random.nextInt(4);
        int i = 0;
        for (int[] t : set) {
            if (i >= mark) {
                Check.due(x, t[0], 908, one, mark, i - mark, 0);
                Check.due(x, t[1], 908, one, mark, i - mark, 1);
                Check.due(x, t[4], 908, one, mark, i - mark, 2);
            }
            i++;
        }
        Check.due(x, Check.THING, 908, one, mark, Math.max(0, i - mark), 5);
    }

    private static void books(Random random) {
        TimberHouse x = new TimberHouse();
        List<int[]> days = new ArrayList<>();
        List<List<int[]>> rows = new ArrayList<>();
        List<Integer> byNumber = new ArrayList<>();
        int closed = -1;
        for (int i = 0; i < 70; i++) {
            int how = random.nextInt(12);
            int e = days.isEmpty() ? 0 : Math.max(0, days.size() - 1 - random.nextInt(3));
            if (how < 2 && days.size() < 60) {
                int day = random.nextInt(200);
                Check.due(x, days.size(), 912, day);
                days.add(new int[] {day, 0, 0});
                rows.add(new ArrayList<>());
            } else if (how < 7 && !days.isEmpty()) {
                int sum = rows.get(e).stream().mapToInt(r -> r[1]).sum();
                int[] row = {random.nextInt(10), random.nextInt(3) > 0 ? -sum : random.nextInt(100) - 50};
                boolean may = days.get(e)[1] == 0 && rows.get(e).size() < 6;
                Check.due(x, may ? rows.get(e).size() + 1 : Check.STATE, 913, e, row[0], row[1]);
                if (may) {
                    rows.get(e).add(row);
                }
            } else if (how < 9 && !days.isEmpty()) {
                int sum = rows.get(e).stream().mapToInt(r -> r[1]).sum();
                boolean may = !rows.get(e).isEmpty() && sum == 0 && days.get(e)[0] / 30 > closed;
                Check.due(x, days.get(e)[1] != 0 ? Check.STATE : may ? byNumber.size() + 1 : 0, 914, e);
                if (days.get(e)[1] == 0 && may) {
                    byNumber.add(e);
                    days.get(e)[1] = byNumber.size();
                }
            } else if (how == 9 && random.nextInt(6) == 0) {
                int month = random.nextInt(5);
                Check.due(x, month > closed ? 1 : 0, 916, month);
                closed = Math.max(closed, month);
            } else if (how == 10 && !byNumber.isEmpty()) {
                int number = 1 + random.nextInt(byNumber.size());
                int day = random.nextInt(200);
                int back = byNumber.get(number - 1);
                boolean may = days.get(back)[2] == 0 && days.size() < 60;
                Check.due(x, !may ? Check.STATE : day / 30 <= closed ? 0 : byNumber.size() + 1, 917, number, day);
                if (may && day / 30 > closed) {
                    days.get(back)[2] = 1;
                    byNumber.add(days.size());
                    days.add(new int[] {day, byNumber.size(), 1});
                    List<int[]> turned = new ArrayList<>();
                    rows.get(back).forEach(r -> turned.add(new int[] {r[0], -r[1]}));
                    rows.add(turned);
                }
            }
            int account = random.nextInt(10);
            int day = random.nextInt(220) - 10;
            long sum = 0;
            for (int k = 0; k < days.size(); k++) {
                for (int[] row : rows.get(k)) {
                    sum += days.get(k)[1] > 0 && days.get(k)[0] <= day && row[0] == account ? row[1] : 0;
                }
            }
            Check.due(x, sum, 915, account, day);
        }
    }

    private static void marks() {
        TimberHouse x = new TimberHouse();
        Check.due(x, 1, 901, 0, 1, 0, 3, 77, 5);
        Check.due(x, 0, 902, 0);
        Check.due(x, 77, 905, 0, 0, 2, 5);
        Check.due(x, 0, 905, 0, 0, 2, 4);
        Check.due(x, 77, 905, 0, 0, 3, 5);
        Check.due(x, 1, 901, 1, 1, 0, 2, 8, 5);
        Check.due(x, 1, 902, 1);
        Check.due(x, 8, 905, 1, 0, 2, 5);
        Check.due(x, 1, 903, 0, 1);
        Check.due(x, 77, 905, 0, 0, 2, 5);
        Check.due(x, 1, 901, 2, 1, 0, 2, 9, 6);
        Check.due(x, 2, 902, 2);
        Check.due(x, 1, 903, 0, 2);
        Check.due(x, 0, 905, 0, 0, 2, 6);
        Check.due(x, 77, 905, 0, 0, 2, 5);
        Check.due(x, 0, 906, 0, 0);
        Check.due(x, -1, 906, 1, 0);
        Check.due(x, 0, 901, 0, 1, 9, 0, 1, 1);
        Check.due(x, 2147483647L, 905, sum(x, 2147483647), 3, 0, 9);
        Check.due(x, 1, 901, 3, -7, 3, 0, 2147483647, 9);
        Check.due(x, 4, 902, 3);
        Check.due(x, 2 * 2147483647L, 905, 4, 3, 0, 9);
        Check.due(x, -7, 908, 4, 0, 0, 1);
    }

    private static int sum(TimberHouse x, int v) {
        Check.due(x, 1, 901, 3, 5, 3, 0, v, 9);
        Check.due(x, 3, 902, 3);
        return 3;
    }

    private static void rooms() {
        TimberHouse x = new TimberHouse();
        for (int i = 0; i < 300; i++) {
            Check.due(x, 1, 901, i % 6, i, i % 10, i % 4, i, i);
        }
        Check.due(x, Check.STATE, 901, 0, 300, 0, 0, 0, 0);
        Check.due(x, 0, 901, 0, 294, 9, 3, 5, 5);
        Check.due(x, Check.THING, 901, 6, 294, 9, 3, 5, 5);
        Check.due(x, Check.THING, 901, 0, 294, 10, 4, 5, 5);
        Check.due(x, Check.NUMBER, 901, 0, 294, 9, 4, 5, 5);
        for (int i = 0; i < 8; i++) {
            Check.due(x, i, 902, i % 6);
            Check.due(x, 50, 907, i);
        }
        Check.due(x, Check.STATE, 902, 0);
        Check.due(x, Check.THING, 902, 6);
        for (int i = 1; i < 6; i++) {
            Check.due(x, 50, 903, 0, i);
        }
        Check.due(x, 0, 903, 0, 7);
        Check.due(x, 0, 903, 0, 0);
        Check.due(x, 300, 907, 0);
        Check.due(x, 299, 908, 0, 299, 0, 1);
        Check.due(x, Check.THING, 908, 0, 2147483647, 2147483647, 0);
    }

    private static void entries() {
        TimberHouse x = new TimberHouse();
        Check.due(x, 0, 912, 29);
        Check.due(x, 0, 914, 0);
        Check.due(x, 1, 913, 0, 0, 1000000000);
        Check.due(x, 0, 914, 0);
        Check.due(x, 2, 913, 0, 9, -1000000000);
        Check.due(x, 1, 916, 0);
        Check.due(x, 0, 916, 0);
        Check.due(x, 0, 914, 0);
        Check.due(x, 1, 912, 30);
        for (int i = 1; i <= 6; i++) {
            Check.due(x, i, 913, 1, 3, i == 6 ? -2000 : 400);
        }
        Check.due(x, Check.STATE, 913, 1, 3, 0);
        Check.due(x, 1, 914, 1);
        Check.due(x, Check.STATE, 914, 1);
        Check.due(x, Check.STATE, 913, 1, 3, 0);
        Check.due(x, 0, 917, 1, 29);
        Check.due(x, 2, 917, 1, 30);
        Check.due(x, Check.STATE, 917, 1, 29);
        Check.due(x, Check.STATE, 917, 2, 29);
        Check.due(x, Check.THING, 917, 3, -1);
        Check.due(x, Check.THING, 917, 0, 30);
        Check.due(x, Check.NUMBER, 917, 1, 3600);
        Check.due(x, 1, 916, 119);
        Check.due(x, 0, 916, 5);
        Check.due(x, Check.NUMBER, 916, 120);
        Check.due(x, Check.NUMBER, 916, -1);
        for (int i = 3; i < 60; i++) {
            Check.due(x, i, 912, 3599);
        }
        Check.due(x, Check.STATE, 912, 0);
        Check.due(x, Check.NUMBER, 912, 3600);
        Check.due(x, Check.NUMBER, 912, -1);
        Check.due(x, 1, 900);
        for (int i = 0; i < 59; i++) {
            Check.due(x, i, 912, 0);
        }
        Check.due(x, 1, 913, 0, 0, 0);
        Check.due(x, 1, 914, 0);
        Check.due(x, 59, 912, 0);
        Check.due(x, Check.STATE, 917, 1, 0);
    }

    private static void edges() {
        TimberHouse x = new TimberHouse();
        Check.due(x, Check.THING, 903, 0, 0);
        Check.due(x, Check.THING, 904, 0, 0);
        Check.due(x, Check.THING, 905, 0, 0, 0, 0);
        Check.due(x, Check.THING, 906, 0, -1);
        Check.due(x, Check.THING, 907, 0);
        Check.due(x, Check.THING, 908, 0, -1, 0, 0);
        Check.due(x, Check.THING, 909, 0, 0);
        Check.due(x, Check.THING, 910, 4, 4, 0);
        Check.due(x, Check.NUMBER, 910, 0, 4, 0);
        Check.due(x, Check.THING, 911, 0, 0, 0, 4);
        Check.due(x, 0, 902, 5);
        Check.due(x, Check.THING, 905, 0, 10, 4, 0);
        Check.due(x, Check.NUMBER, 905, 0, 9, 4, 0);
        Check.due(x, 0, 905, 0, 9, 2, 0);
        Check.due(x, 0, 905, 0, 9, 1, 0);
        Check.due(x, Check.NUMBER, 906, 0, -1);
        Check.due(x, Check.NUMBER, 908, 0, -1, 0, 0);
        Check.due(x, Check.NUMBER, 908, 0, 0, -1, 9);
        Check.due(x, Check.THING, 908, 0, 0, 0, 9);
        Check.due(x, 1, 901, 5, 1, 1, 1, 1, 1);
        Check.due(x, 1, 902, 5);
        Check.due(x, Check.NUMBER, 908, 1, 0, 0, 3);
        Check.due(x, 5, 908, 1, 0, 0, 0);
        Check.due(x, Check.THING, 911, 0, 2, 0, 0);
        Check.due(x, Check.THING, 911, 4, 0, 0, 9);
        Check.due(x, Check.NUMBER, 911, 0, 0, 0, 4);
        Check.due(x, Check.STATE, 911, 0, 0, 0, 3);
        Check.due(x, Check.THING, 913, 0, 0, 1000000001);
        Check.due(x, 0, 912, 0);
        Check.due(x, Check.THING, 913, 0, 10, 0);
        Check.due(x, Check.NUMBER, 913, 0, 9, 1000000001);
        Check.due(x, Check.NUMBER, 913, 0, 9, -1000000001);
        Check.due(x, Check.THING, 914, 1);
        Check.due(x, Check.THING, 915, 10, 0);
        Check.due(x, Check.THING, 915, -1, 0);
    }
}
