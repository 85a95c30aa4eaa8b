import java.util.ArrayList;
import java.util.List;
import java.util.Random;

/** SAW against all patterns of small logs, one by one, and the edges that the document names. */
public final class SawTest {
    private static int side;
    private static int kerf;
    private static boolean[][] wood;
    private static int[][] knots;
    private static final List<int[]> sizes = new ArrayList<>();
    private static long bestWorth;
    private static int bestCount;
    private static List<Integer> bestTokens;
    private static List<int[]> bestBoards;
    private static int turn;

    public static void main(String[] args) {
        Random random = new Random(5);
        for (int i = 0; i < 700; i++) {
            compare(random);
        }
        edges();
        Check.end();
    }

    private static int worth(int[] size, int u, int v) {
        if (u + size[1] > side || v + size[0] > side) {
            return -1;
        }
        int lack = 0;
        int worth = size[2];
        for (int j = v; j < v + size[0]; j++) {
            for (int i = u; i < u + size[1]; i++) {
                int x = turn == 0 ? i : j;
                int y = turn == 0 ? j : i;
                lack += wood[y][x] ? 0 : 1;
                worth -= knots[y][x];
            }
        }
        return lack > size[3] ? -1 : Math.max(0, worth);
    }

    private static void rows(int v, long sum, List<Integer> tokens, List<int[]> boards) {
        if (v >= side) {
            boolean better = bestTokens == null || sum > bestWorth || sum == bestWorth && boards.size() < bestCount
                || sum == bestWorth && boards.size() == bestCount && less(tokens, bestTokens);
            if (better) {
                bestWorth = sum;
                bestCount = boards.size();
                bestTokens = new ArrayList<>(tokens);
                bestBoards = new ArrayList<>(boards);
            }
            return;
        }
        tokens.add(99);
        rows(v + 1, sum, tokens, boards);
        tokens.remove(tokens.size() - 1);
        for (int t = 1; t <= side - v; t++) {
            tokens.add(t);
            columns(v, t, 0, 0, sum, tokens, boards);
            tokens.remove(tokens.size() - 1);
        }
    }

    private static void columns(int v, int t, int u, int count, long sum, List<Integer> tokens, List<int[]> boards) {
        if (u >= side) {
            if (count > 0) {
                rows(v + t + kerf, sum, tokens, boards);
            }
            return;
        }
        tokens.add(99);
        columns(v, t, u + 1, count, sum, tokens, boards);
        tokens.remove(tokens.size() - 1);
        for (int s = 0; s < sizes.size(); s++) {
            int worth = sizes.get(s)[0] == t ? worth(sizes.get(s), u, v) : -1;
            if (worth >= 0) {
                tokens.add(s);
                boards.add(new int[] {s, u, v, worth});
                columns(v, t, u + sizes.get(s)[1] + kerf, count + 1, sum + worth, tokens, boards);
                boards.remove(boards.size() - 1);
                tokens.remove(tokens.size() - 1);
            }
        }
    }

    private static boolean less(List<Integer> a, List<Integer> b) {
        for (int i = 0; i < Math.min(a.size(), b.size()); i++) {
            if (!a.get(i).equals(b.get(i))) {
                return a.get(i) < b.get(i);
            }
        }
        return false;
    }

    private static void compare(Random random) {
        TimberHouse x = new TimberHouse();
        side = 1 + random.nextInt(4);
        kerf = random.nextInt(3);
        Check.due(x, 1, 0, side, kerf);
        wood = new boolean[side][side];
        knots = new int[side][side];
        int cells = 0;
        for (int j = 0; j < side; j++) {
            for (int i = 0; i < side; i++) {
                boolean one = random.nextInt(8) > 0;
                boolean other = random.nextInt(8) > 0;
                Check.due(x, one ? 1 : 0, 1, 0, i, j, one ? 5 : 0);
                Check.due(x, other ? 1 : 0, 1, 1, i, j, other ? -1 : 0);
                wood[j][i] = one && other;
                cells += one && other ? 1 : 0;
                int loss = random.nextInt(4) == 0 ? random.nextInt(4) : 0;
                Check.due(x, loss > 0 ? 1 : 0, 3, i, j, loss);
                knots[j][i] = loss;
            }
        }
        sizes.clear();
        int count = random.nextInt(4);
        for (int s = 0; s < count; s++) {
            int[] size = {1 + random.nextInt(3), 1 + random.nextInt(3), random.nextInt(7), random.nextInt(3)};
            sizes.add(size);
            Check.due(x, s, 4, size[0], size[1], size[2], size[3]);
        }
        Check.due(x, Check.STATE, 7, 0);
        long[] worth = new long[2];
        int[] boards = new int[2];
        List<List<int[]>> all = new ArrayList<>();
        for (turn = 0; turn < 2; turn++) {
            bestTokens = null;
            bestWorth = 0;
            bestCount = 0;
            rows(0, 0, new ArrayList<>(), new ArrayList<>());
            worth[turn] = bestWorth;
            boards[turn] = bestCount;
            all.add(bestBoards);
            Check.due(x, bestWorth, 8, turn);
        }
        turn = worth[1] > worth[0] || worth[1] == worth[0] && boards[1] < boards[0] ? 1 : 0;
        List<int[]> best = all.get(turn);
        Check.due(x, best.size(), 5);
        Check.due(x, worth[turn], 7, 0);
        Check.due(x, turn, 7, 1);
        Check.due(x, best.size(), 7, 3);
        long slabs = best.stream().map(b -> b[2]).distinct().count();
        Check.due(x, slabs, 7, 2);
        int covered = 0;
        for (int k = 0; k < best.size(); k++) {
            int[] b = best.get(k);
            int[] s = sizes.get(b[0]);
            Check.due(x, b[0], 6, k, 0);
            Check.due(x, turn == 0 ? b[1] : b[2], 6, k, 1);
            Check.due(x, turn == 0 ? b[2] : b[1], 6, k, 2);
            Check.due(x, turn == 0 ? s[1] : s[0], 6, k, 3);
            Check.due(x, turn == 0 ? s[0] : s[1], 6, k, 4);
            Check.due(x, b[3], 6, k, 5);
            Check.due(x, 1, 10, b[0], turn == 0 ? b[1] : b[2], turn == 0 ? b[2] : b[1], turn);
            covered += s[0] * s[1];
            for (int o = 0; o < best.size(); o++) {
                Check.due(x, o == k ? 0 : 1, 11, k, o);
            }
        }
        int common = gcd(covered, cells);
        Check.due(x, cells == 0 ? 0 : covered / common, 9, 0);
        Check.due(x, cells == 0 ? 1 : cells / common, 9, 1);
        Check.due(x, cells, 12);
    }

    private static int gcd(int a, int b) {
        return b == 0 ? Math.max(a, 1) : gcd(b, a % b);
    }

    private static void edges() {
        TimberHouse x = new TimberHouse();
        Check.due(x, 0, 12);
        Check.due(x, Check.STATE, 6, 0, 0);
        Check.due(x, Check.STATE, 6, 99, 99);
        Check.due(x, Check.STATE, 9, 7);
        Check.due(x, Check.STATE, 11, 0, 0);
        Check.due(x, 0, 5);
        Check.due(x, Check.THING, 6, 0, 0);
        Check.due(x, 0, 9, 0);
        Check.due(x, 1, 9, 1);
        Check.due(x, Check.THING, 9, 2);
        Check.due(x, Check.THING, 7, 4);
        Check.due(x, Check.THING, 7, -1);
        Check.due(x, Check.THING, 8, 2);
        Check.due(x, 0, 1, 0, 11, 11, 0);
        Check.due(x, 0, 7, 1);
        Check.due(x, Check.THING, 1, 2, 0, 0, 1);
        Check.due(x, Check.THING, 1, 0, 12, 0, 1);
        Check.due(x, Check.THING, 1, 0, 0, -1, 1);
        Check.due(x, 1, 1, 0, 11, 11, 1);
        Check.due(x, Check.STATE, 7, 1);
        Check.due(x, 0, 5);
        Check.due(x, 0, 1, 0, 11, 11, 7);
        Check.due(x, 0, 7, 1);
        Check.due(x, 0, 2, 0, 0, 12, 12);
        Check.due(x, Check.STATE, 7, 1);
        Check.due(x, Check.THING, 2, 0, 12, 0, 0);
        Check.due(x, Check.THING, 2, -1, 0, 13, 0);
        Check.due(x, Check.NUMBER, 2, 0, 0, 13, 13);
        Check.due(x, Check.NUMBER, 2, 0, 0, 3, 2);
        Check.due(x, Check.NUMBER, 2, 0, 0, 3, 13);
        Check.due(x, Check.THING, 3, 12, 0, -1);
        Check.due(x, Check.NUMBER, 3, 0, 0, 10001);
        Check.due(x, Check.NUMBER, 4, 0, 1, 0, 0);
        Check.due(x, Check.NUMBER, 4, 1, 21, 0, 0);
        Check.due(x, Check.NUMBER, 4, 1, 1, 100001, 0);
        Check.due(x, Check.NUMBER, 4, 1, 1, 0, 401);
        for (int i = 0; i < 8; i++) {
            Check.due(x, i, 4, 20, 20, 100000, 400);
        }
        Check.due(x, Check.STATE, 4, 1, 1, 1, 1);
        Check.due(x, Check.NUMBER, 4, 1, 1, 1, -1);
        Check.due(x, 0, 10, 0, 0, 0, 0);
        Check.due(x, Check.THING, 10, 8, 0, 0, 0);
        Check.due(x, Check.THING, 10, 0, 0, 0, 2);
        Check.due(x, 0, 10, 0, -1, 2147483647, 0);
        Check.due(x, 1, 0, 99, 99);
        Check.due(x, Check.THING, 10, 0, 0, 0, 0);
        Check.due(x, 0, 2, 0, 19, 0, 20);
        Check.due(x, Check.THING, 2, 0, 20, 0, 20);
        Check.due(x, 1, 0, -5, -5);
        Check.due(x, Check.THING, 1, 0, 1, 0, 1);
        // WANE lets a board lie on no WOOD at all: cells by WOOD without WOOD is 0 / 1.
        Check.due(x, 0, 4, 1, 1, 9, 1);
        Check.due(x, 1, 5);
        Check.due(x, 1, 6, 0, 6);
        Check.due(x, 0, 9, 0);
        Check.due(x, 1, 9, 1);
        Check.due(x, 0, 11, 0, 0);
        Check.due(x, Check.THING, 11, 0, 1);
        Check.due(x, 1, 0, 12, 1);
        Check.due(x, 1, 0, 12, 1);
        Check.due(x, 0, 0, 12, 1);
    }
}
