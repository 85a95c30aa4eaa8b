import java.util.ArrayList;
import java.util.HashMap;
import java.util.List;
import java.util.Map;
import java.util.Random;

/** SHEETS against trees built as the document tells them, and the edges that it names. */
public final class SheetsTest {
    private static int kerf;
    private static int stages;
    private static int least;
    private static final List<int[]> sheets = new ArrayList<>();
    private static final List<int[]> parts = new ArrayList<>();
    private static int[] open;
    private static final Map<String, Tree> known = new HashMap<>();

    /** A tree: WASTE (part and cut - 1), a PART, or a CUT of two trees. */
    private static final class Tree {
        private int part = -1;
        private int cut = -1;
        private int way;
        private int width;
        private int height;
        private Tree first;
        private Tree second;
        private int value;
        private int cuts;

        private boolean beats(Tree o) {
            return value > o.value || value == o.value && cuts < o.cuts;
        }

        private String told() {
            return part >= 0 ? "P" + part : cut < 0 ? "W" : "(" + way + ":" + cut + first.told() + (second == null ? "" : second.told()) + ")";
        }
    }

    /** What a tree laid out gives. */
    private static final class Laid {
        private int sheet;
        private String tree;
        private int way;
        private final List<int[]> taken = new ArrayList<>();
        private final List<int[]> rests = new ArrayList<>();
        private int area;
        private int cuts;
        private int minutes;
        private int[] left;
    }

    public static void main(String[] args) {
        Random random = new Random(8);
        for (int i = 0; i < 400; i++) {
            compare(random);
        }
        for (int i = 0; i < 60; i++) {
            full(random);
        }
        edges();
        desk();
        Check.end();
    }

    private static Tree best(int w, int h, int way, int s) {
        String key = w + "," + h + "," + way + "," + s;
        Tree tree = known.get(key);
        if (tree == null) {
            tree = find(w, h, way, s);
            known.put(key, tree);
        }
        return tree;
    }

    private static Tree find(int w, int h, int way, int s) {
        Tree best = new Tree();
        best.width = w;
        best.height = h;
        for (int p = 0; p < parts.size(); p++) {
            int[] part = parts.get(p);
            boolean fits = part[0] == w && part[1] == h || part[3] != 0 && part[0] == h && part[1] == w;
            Tree tree = new Tree();
            tree.width = w;
            tree.height = h;
            tree.part = p;
            tree.value = w * h;
            if (open[p] > 0 && fits && tree.beats(best)) {
                best = tree;
            }
        }
        int size = way == 0 ? w : h;
        for (int c = 1; s > 0 && c < size; c++) {
            Tree tree = new Tree();
            tree.width = w;
            tree.height = h;
            tree.cut = c;
            tree.way = way;
            tree.first = way == 0 ? best(c, h, 1, s - 1) : best(w, c, 0, s - 1);
            int behind = size - c - kerf;
            if (behind > 0) {
                tree.second = way == 0 ? best(behind, h, 0, s) : best(w, behind, 1, s);
            }
            tree.value = tree.first.value + (tree.second == null ? 0 : tree.second.value);
            tree.cuts = 1 + tree.first.cuts + (tree.second == null ? 0 : tree.second.cuts);
            if (tree.beats(best)) {
                best = tree;
            }
        }
        return best;
    }

    private static void lay(Tree tree, int x, int y, Laid laid) {
        if (tree.part >= 0) {
            if (laid.left[tree.part] > 0) {
                laid.left[tree.part]--;
                laid.taken.add(new int[] {tree.part, x, y, tree.width, tree.height});
                laid.area += tree.width * tree.height;
            }
        } else if (tree.cut < 0) {
            if (tree.width >= least && tree.height >= least) {
                laid.rests.add(new int[] {x, y, tree.width, tree.height});
            }
        } else {
            laid.cuts++;
            laid.minutes += tree.way == 0 ? tree.height : tree.width;
            lay(tree.first, x, y, laid);
            if (tree.second != null) {
                int gone = tree.cut + kerf;
                lay(tree.second, tree.way == 0 ? x + gone : x, tree.way == 0 ? y : y + gone, laid);
            }
        }
    }

    private static void compare(Random random) {
        TimberHouse x = new TimberHouse();
        kerf = random.nextInt(4) * random.nextInt(2);
        stages = 1 + random.nextInt(3);
        least = 1 + random.nextInt(3);
        Check.due(x, 1, 500, kerf, stages, least);
        sheets.clear();
        parts.clear();
        int most = random.nextInt(8) == 0 ? 16 : 9;
        for (int i = random.nextInt(5); i > 0; i--) {
            int[] sheet = {1 + random.nextInt(most), 1 + random.nextInt(most), 1 + random.nextInt(9), random.nextInt(4)};
            Check.due(x, sheets.size(), 501, sheet[0], sheet[1], sheet[2], sheet[3]);
            sheets.add(sheet);
        }
        for (int i = random.nextInt(6); i > 0; i--) {
            int[] part = {1 + random.nextInt(5), 1 + random.nextInt(5), random.nextInt(7), random.nextInt(2)};
            Check.due(x, parts.size(), 502, part[0], part[1], part[2], part[3]);
            parts.add(part);
        }
        for (int times = 0; times < 2; times++) {
            worths(x, random);
            runs(x);
            if (!parts.isEmpty()) {
                int p = random.nextInt(parts.size());
                int count = random.nextInt(12);
                Check.due(x, parts.get(p)[2], 503, p, count);
                parts.get(p)[2] = count;
                Check.due(x, Check.STATE, 510, 0);
            }
        }
    }

    /** Sheets and parts as large and many as there may be; of what is TAKEN each place is asked, as long as calls last. */
    private static void full(Random random) {
        TimberHouse x = new TimberHouse();
        kerf = random.nextInt(4);
        stages = 1 + random.nextInt(3);
        least = 1 + random.nextInt(16);
        Check.due(x, 1, 500, kerf, stages, least);
        sheets.clear();
        parts.clear();
        for (int i = 0; i < 4; i++) {
            int[] sheet = {9 + random.nextInt(8), 9 + random.nextInt(8), 1 + random.nextInt(300), random.nextInt(21)};
            Check.due(x, i, 501, sheet[0], sheet[1], sheet[2], sheet[3]);
            sheets.add(sheet);
        }
        int most = 3 + random.nextInt(14);
        for (int i = 0; i < 8; i++) {
            int[] part = {1 + random.nextInt(most), 1 + random.nextInt(most), random.nextInt(51), random.nextInt(2)};
            Check.due(x, i, 502, part[0], part[1], part[2], part[3]);
            parts.add(part);
        }
        worths(x, random);
        runs(x);
    }

    private static void worths(TimberHouse x, Random random) {
        open = parts.stream().mapToInt(p -> p[2]).toArray();
        known.clear();
        for (int i = 0; i < 6; i++) {
            int w = 1 + random.nextInt(16);
            int h = 1 + random.nextInt(16);
            int way = random.nextInt(2);
            int s = random.nextInt(4);
            Check.due(x, best(w, h, way, s).value, 504, w, h, way, s);
        }
    }

    private static void runs(TimberHouse x) {
        List<Laid> cut = new ArrayList<>();
        int[] stock = sheets.stream().mapToInt(s -> s[3]).toArray();
        open = parts.stream().mapToInt(p -> p[2]).toArray();
        while (cut.size() < 20) {
            known.clear();
            Laid best = null;
            for (int s = 0; s < sheets.size(); s++) {
                int[] sheet = sheets.get(s);
                if (stock[s] > 0) {
                    Tree across = best(sheet[0], sheet[1], 0, stages);
                    Tree down = best(sheet[0], sheet[1], 1, stages);
                    Laid laid = new Laid();
                    laid.sheet = s;
                    laid.way = down.beats(across) ? 1 : 0;
                    laid.left = open.clone();
                    laid.tree = (laid.way == 1 ? down : across).told();
                    lay(laid.way == 1 ? down : across, 0, 0, laid);
                    if (laid.area > 0 && (best == null
                        || (long) laid.area * sheets.get(best.sheet)[2] > (long) best.area * sheet[2])) {
                        best = laid;
                    }
                }
            }
            if (best == null) {
                break;
            }
            stock[best.sheet]--;
            open = best.left;
            cut.add(best);
        }
        Check.due(x, cut.size(), 505);
        same(x, cut);
    }

    private static void same(TimberHouse x, List<Laid> cut) {
        int[] sums = new int[3];
        int area = 0;
        for (int k = 0; k < cut.size(); k++) {
            Laid laid = cut.get(k);
            int needed = 40 + 10 * (cut.size() - k);
            int alike = 0;
            while (cut.get(alike).sheet != laid.sheet || !cut.get(alike).tree.equals(laid.tree)) {
                alike++;
            }
            int[] due = {laid.sheet, laid.taken.size(), laid.area, laid.cuts, laid.way, laid.minutes, laid.rests.size(), alike};
            for (int what = 0; what < 8; what++) {
                Check.due(x, due[what], 506, k, what);
            }
            for (int i = 0; i < laid.taken.size() && Check.left(x) > needed + 10; i++) {
                for (int what = 0; what < 5; what++) {
                    Check.due(x, laid.taken.get(i)[what], 507, k, i, what);
                }
            }
            Check.due(x, Check.THING, 507, k, laid.taken.size(), 0);
            for (int i = 0; i < laid.rests.size() && Check.left(x) > needed; i++) {
                for (int what = 0; what < 4; what++) {
                    Check.due(x, laid.rests.get(i)[what], 508, k, i, what);
                }
            }
            Check.due(x, Check.THING, 508, k, laid.rests.size(), 0);
            sums[0] += sheets.get(laid.sheet)[2];
            sums[1] += sheets.get(laid.sheet)[0] * sheets.get(laid.sheet)[1];
            sums[2] += laid.area;
        }
        for (int what = 0; what < 3; what++) {
            Check.due(x, sums[what], 510, what);
        }
        for (int p = 0; p < parts.size(); p++) {
            Check.due(x, open[p], 509, p);
            area += parts.get(p)[0] * parts.get(p)[1] * parts.get(p)[2];
        }
        int largest = 0;
        for (int[] sheet : sheets) {
            largest = Math.max(largest, sheet[0] * sheet[1]);
        }
        Check.due(x, largest == 0 ? 0 : (area + largest - 1) / largest, 511);
    }

    private static void edges() {
        TimberHouse x = new TimberHouse();
        for (int call : new int[] {506, 507, 508, 509, 510}) {
            Check.due(x, Check.STATE, call, -1, -1, -1);
        }
        Check.due(x, 0, 511);
        Check.due(x, 0, 505);
        Check.due(x, Check.THING, 506, 0, 0);
        Check.due(x, Check.THING, 509, 0);
        Check.due(x, Check.THING, 510, 3);
        Check.due(x, Check.NUMBER, 501, 0, 1, 1, 1);
        Check.due(x, Check.NUMBER, 501, 1, 17, 1, 1);
        Check.due(x, Check.NUMBER, 501, 1, 1, 0, 1);
        Check.due(x, Check.NUMBER, 501, 1, 1, 10001, 1);
        Check.due(x, Check.NUMBER, 501, 1, 1, 1, 21);
        Check.due(x, Check.NUMBER, 501, 1, 1, 1, -1);
        Check.due(x, Check.NUMBER, 502, 17, 1, 1, 1);
        Check.due(x, Check.NUMBER, 502, 1, 0, 1, 1);
        Check.due(x, Check.NUMBER, 502, 1, 1, 51, 1);
        Check.due(x, Check.NUMBER, 502, 1, 1, -1, 1);
        Check.due(x, Check.THING, 503, 0, 99);
        Check.due(x, 0, 510, 0);
        Check.due(x, Check.NUMBER, 504, 0, 1, 0, 0);
        Check.due(x, Check.NUMBER, 504, 1, 17, 0, 0);
        Check.due(x, Check.NUMBER, 504, 1, 1, 2, 0);
        Check.due(x, Check.NUMBER, 504, 1, 1, 0, 4);
        Check.due(x, 0, 504, 16, 16, 1, 3);
        for (int i = 0; i < 4; i++) {
            Check.due(x, i, 501, 16, 16, 10000, 20);
        }
        Check.due(x, Check.STATE, 510, 0);
        Check.due(x, Check.STATE, 501, 16, 16, 10000, 20);
        Check.due(x, Check.NUMBER, 501, 17, 16, 10000, 20);
        for (int i = 0; i < 8; i++) {
            Check.due(x, i, 502, 1, 1, 50, 1);
        }
        Check.due(x, Check.STATE, 502, 1, 1, 50, 1);
        Check.due(x, Check.NUMBER, 502, 1, 1, 51, 1);
        Check.due(x, 2, 511);
        // All parts are alike: only the first that is wanted is met in a tree, fifty times.
        Check.due(x, 8, 505);
        Check.due(x, 50, 506, 0, 1);
        // The last strip stays on its way, on which it can't be cut any more: 15 strips of 16.
        Check.due(x, 240, 504, 16, 16, 0, 3);
        Check.due(x, 240, 506, 0, 3);
        Check.due(x, 0, 506, 0, 6);
        Check.due(x, 7, 506, 7, 7);
        Check.due(x, 0, 506, 7, 0);
        Check.due(x, Check.THING, 506, 8, 0);
        Check.due(x, Check.THING, 506, 0, 8);
        Check.due(x, Check.THING, 507, 0, 0, 5);
        Check.due(x, Check.THING, 508, 0, 0, 0);
        Check.due(x, Check.NUMBER, 503, 0, 51);
        Check.due(x, 50, 506, 7, 2);
    }

    /** At most twenty sheets are cut; ALIKE sheets have the same tree, also with other copies TAKEN. */
    private static void desk() {
        TimberHouse x = new TimberHouse();
        Check.due(x, 1, 500, -1, 99, 99);
        Check.due(x, 0, 501, 1, 1, 1, 20);
        Check.due(x, 1, 501, 1, 1, 1, 20);
        Check.due(x, 0, 502, 1, 1, 50, 0);
        Check.due(x, 20, 505);
        Check.due(x, 30, 509, 0);
        Check.due(x, 0, 506, 19, 7);
        Check.due(x, 0, 506, 19, 0);
        Check.due(x, 20, 510, 0);
        Check.due(x, 20, 510, 2);
        Check.due(x, 50, 511);
        Check.due(x, 20, 505);
        Check.due(x, 30, 509, 0);
    }
}
