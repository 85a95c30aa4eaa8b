import java.util.ArrayList;
import java.util.List;
import java.util.Random;

/** SAW on grids of full size: the best rest from each row and column on, with its tokens compared one by one. */
public final class SawLargeTest {
    private static final int NOTHING = 99;
    private static int side;
    private static int kerf;
    private static int turn;
    private static boolean[][] wood;
    private static int[][] knots;
    private static final List<int[]> sizes = new ArrayList<>();

    /** What stands from a row (or column) on: its worth, and tokens by which it is told from others. */
    private static final class Rest {
        private long worth;
        private final List<Integer> tokens = new ArrayList<>();
        private final List<int[]> boards = new ArrayList<>();

        private boolean beats(Rest o) {
            if (worth != o.worth || boards.size() != o.boards.size()) {
                return worth > o.worth || worth == o.worth && boards.size() < o.boards.size();
            }
            for (int i = 0; i < Math.min(tokens.size(), o.tokens.size()); i++) {
                if (!tokens.get(i).equals(o.tokens.get(i))) {
                    return tokens.get(i) < o.tokens.get(i);
                }
            }
            return false;
        }

        private Rest with(int token, int[] board, Rest behind) {
            Rest rest = new Rest();
            rest.worth = worth + (board == null ? 0 : board[3]) + behind.worth;
            rest.tokens.add(token);
            rest.tokens.addAll(tokens);
            rest.tokens.addAll(behind.tokens);
            if (board != null) {
                rest.boards.add(board);
            }
            rest.boards.addAll(boards);
            rest.boards.addAll(behind.boards);
            return rest;
        }
    }

    public static void main(String[] args) {
        Random random = new Random(21);
        for (int i = 0; i < 120; i++) {
            compare(random);
        }
        Check.end();
    }

    private static boolean isWood(int u, int v) {
        return turn == 0 ? wood[v][u] : wood[u][v];
    }

    private static int knot(int u, int v) {
        return turn == 0 ? knots[v][u] : knots[u][v];
    }

    /** What a board is worth there, or - 1. */
    private static int worth(int[] size, int u, int v) {
        if (u + size[1] > side || v + size[0] > side) {
            return -1;
        }
        int lack = 0;
        int worth = size[2];
        for (int j = v; j < v + size[0]; j++) {
            for (int i = u; i < u + size[1]; i++) {
                lack += isWood(i, j) ? 0 : 1;
                worth -= knot(i, j);
            }
        }
        return lack > size[3] ? -1 : Math.max(0, worth);
    }

    private static Rest slab(int v, int thick) {
        Rest[] from = new Rest[side + 30];
        for (int u = side + 29; u >= side; u--) {
            from[u] = new Rest();
        }
        for (int u = side - 1; u >= 0; u--) {
            from[u] = new Rest().with(NOTHING, null, from[u + 1]);
            for (int s = 0; s < sizes.size(); s++) {
                int[] size = sizes.get(s);
                int worth = size[0] == thick ? worth(size, u, v) : -1;
                if (worth >= 0) {
                    Rest rest = new Rest().with(s, new int[] {s, u, v, worth}, from[u + size[1] + kerf]);
                    from[u] = rest.beats(from[u]) ? rest : from[u];
                }
            }
        }
        return from[0];
    }

    private static Rest pattern() {
        Rest[] from = new Rest[side + 30];
        for (int v = side + 29; v >= side; v--) {
            from[v] = new Rest();
        }
        for (int v = side - 1; v >= 0; v--) {
            from[v] = new Rest().with(NOTHING, null, from[v + 1]);
            for (int thick = 1; thick <= side - v; thick++) {
                Rest slab = slab(v, thick);
                if (!slab.boards.isEmpty()) {
                    Rest rest = slab.with(thick, null, from[v + thick + kerf]);
                    from[v] = rest.beats(from[v]) ? rest : from[v];
                }
            }
        }
        return from[0];
    }

    private static void compare(Random random) {
        TimberHouse x = new TimberHouse();
        side = 8 + random.nextInt(13);
        kerf = random.nextInt(5);
        Check.due(x, 1, 0, side, kerf);
        wood = new boolean[side][side];
        boolean[][][] in = new boolean[2][side][side];
        for (int end = 0; end < 2; end++) {
            for (int y = 0; y < side; y++) {
                int from = random.nextInt(1 + side / 4);
                int to = side - random.nextInt(1 + side / 4);
                Check.due(x, 0, 2, end, y, from, to);
                for (int i = from; i < to; i++) {
                    in[end][y][i] = true;
                }
            }
        }
        for (int y = 0; y < side; y++) {
            for (int i = 0; i < side; i++) {
                wood[y][i] = in[0][y][i] && in[1][y][i];
            }
        }
        knots = new int[side][side];
        for (int i = random.nextInt(12); i > 0; i--) {
            int kx = random.nextInt(side);
            int ky = random.nextInt(side);
            int loss = 1 + random.nextInt(random.nextBoolean() ? 3 : 60);
            Check.due(x, knots[ky][kx] == loss ? 0 : 1, 3, kx, ky, loss);
            knots[ky][kx] = loss;
        }
        sizes.clear();
        int most = 2 + random.nextInt(5);
        for (int s = 0; s < 8; s++) {
            int thick = 1 + random.nextInt(most);
            int wide = 1 + random.nextInt(2 * most);
            int worth = random.nextInt(3) == 0 ? 4 * thick * wide : random.nextInt(4 * thick * wide);
            sizes.add(new int[] {thick, wide, worth, random.nextInt(4)});
            Check.due(x, s, 4, thick, wide, worth, sizes.get(s)[3]);
        }
        same(x, random);
    }

    private static void same(TimberHouse x, Random random) {
        turn = 0;
        Rest lying = pattern();
        turn = 1;
        Rest upright = pattern();
        Check.due(x, lying.worth, 8, 0);
        Check.due(x, upright.worth, 8, 1);
        boolean turned = upright.worth > lying.worth
            || upright.worth == lying.worth && upright.boards.size() < lying.boards.size();
        turn = turned ? 1 : 0;
        List<int[]> boards = turned ? upright.boards : lying.boards;
        Check.due(x, boards.size(), 5);
        Check.due(x, turn, 7, 1);
        Check.due(x, turned ? upright.worth : lying.worth, 7, 0);
        Check.due(x, boards.stream().map(b -> b[2]).distinct().count(), 7, 2);
        for (int k = 0; k < boards.size() && Check.left(x) > 20; k++) {
            int[] b = boards.get(k);
            int[] due = {b[0], turned ? b[2] : b[1], turned ? b[1] : b[2]};
            int what = random.nextInt(3);
            Check.due(x, due[what], 6, k, what);
            Check.due(x, due[(what + 1) % 3], 6, k, (what + 1) % 3);
            Check.due(x, b[3], 6, k, 5);
        }
    }
}
