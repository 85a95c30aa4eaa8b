import java.util.Arrays;

/** A timber house from the log to the bill: ten parts, and the desk that carries from part to part. */
public final class TimberHouse {
    public static final long NO_CALL = -9000000000000000000L;
    public static final int BAD = -1;

    private static final int NONE = -1;
    private static final int PARTS = 10;
    private static final int MOST_ANEW = 4;
    private static final int RIPS_PART = 1;
    private static final int SPACE = 32;
    private static final int FACT_MOST = 1000000;
    private static final int BOOK_MOST = 1000000000;
    private static final int GREATEST = 2147483647;
    private static final long ENDLESS = 9000000000000000000L;

    private final Saw saw = new Saw();
    private final Rips rips = new Rips();
    private final Fingers joined = new Fingers();
    private final Turned turned = new Turned();
    private final Nails nails = new Nails();
    private final Sheets sheets = new Sheets();
    private final Router router = new Router();
    private final Plans plans = new Plans();
    private final Prices prices = new Prices();
    private final Shop shop = new Shop();
    private final int[] made = new int[PARTS];
    private int partsWritten;
    private int entriesBooked;
    private int tellingsTold;

    public TimberHouse() {
    }

    public long act(int call, int a, int b, int c, int d, int e, int f)
            throws IndexOutOfBoundsException, IllegalArgumentException, IllegalStateException {
        if (call < 0 || call >= PARTS * 100) {
            return NO_CALL;
        }
        int n = call % 100;
        if (n == 0) {
            return makeAnew(call / 100, a, b, c);
        }
        switch (call / 100) {
            case 0: return saw.call(n, a, b, c, d);
            case 1: return rips.call(n, a, b, c, d, e, f);
            case 2: return joined.call(n, a, b);
            case 3: return turned.call(n, a, b, c, d, e);
            case 4: return nails.call(n, a, b, c, d, e, f);
            case 5: return sheets.call(n, a, b, c, d);
            case 6: return router.call(n, a, b, c, d, e);
            case 7: return plans.call(n, a, b, c, d);
            case 8: return prices.call(n, a, b, c);
            default: return shop.call(n, a, b, c, d, e, f);
        }
    }

    public int rip(int board, int length) {
        if (!within(length, 10, 240) || !saw.has(board)) {
            return BAD;
        }
        return makeAnew(RIPS_PART, 10 * saw.longerSide(board), length, 10) == 1 ? 1 : BAD;
    }

    public int fingers(int least) {
        if (!rips.planned() || least < 0) {
            return BAD;
        }
        int carried = 0;
        for (int k = 0; k < rips.planSize(); k++) {
            int steps = rips.planned(k, Rips.ALONG_X);
            int group = rips.planned(k, Rips.WHICH);
            if (steps >= least) {
                if (joined.addPiece(10 * steps, group) == NONE) {
                    return carried;
                }
                carried++;
            }
        }
        return carried;
    }

    public int hours(int job, int kind) {
        return sheets.wasRun() ? addWork(job, kind, up(sheets.allMinutes(), 60)) : BAD;
    }

    public int passes(int piece, int tool, int job, int kind) {
        return turned.has(piece, tool) ? addWork(job, kind, turned.passCount(piece, tool, 10, 1)) : BAD;
    }

    public int route(int sheet, int depth) {
        if (!sheets.wasRun() || !sheets.hasCut(sheet) || !within(depth, 0, 99)) {
            return BAD;
        }
        int whole = 0;
        for (int k = 0; k < sheets.takenFrom(sheet); k++) {
            int x = sheets.taken(sheet, k, 1);
            int y = sheets.taken(sheet, k, 2);
            int right = x + sheets.taken(sheet, k, 3);
            if (right <= router.side() && y < router.side()) {
                if (!router.writePart(x, y, right - 1, depth)) {
                    break;
                }
                whole++;
            }
        }
        partsWritten += whole;
        return whole;
    }

    public int facts() {
        int told = 0;
        told += tellFact('a', sheets.wasRun(), sheets.allCents(), 100);
        told += tellFact('b', plans.planned(), plans.cost(), 1);
        told += tellFact('c', joined.wasRun(), joined.lineWorth(), 100);
        told += tellFact('d', rips.planned(), rips.trueWorth(), 100);
        told += tellFact('e', saw.wasSawn(), saw.sawnWorth(), 100);
        return told;
    }

    public int book(int offer, int day) {
        if (prices.offerFault(offer, day) != 0) {
            return BAD;
        }
        long cents = prices.offerCents(offer);
        boolean beyond = cents > BOOK_MOST || cents < -BOOK_MOST;
        int entry = beyond ? NONE : shop.addEntry(day);
        if (entry == NONE) {
            return BAD;
        }
        shop.addRow(entry, 0, (int) cents);
        shop.addRow(entry, 1, (int) -cents);
        int number = shop.closeEntry(entry);
        if (number == 0) {
            return BAD;
        }
        entriesBooked++;
        return number;
    }

    public int stock(int on) {
        int number = tellingsTold + 1;
        if (!sheets.wasRun() || shop.hasTold(5, number)
            || !shop.addTelling(5, number, 9, Shop.COUNT, sheets.allTaken(), on)) {
            return BAD;
        }
        tellingsTold = number;
        return number;
    }

    public int whole(int what) {
        switch (what) {
            case 0: return timesAnew();
            case 1: return partsWritten;
            case 2: return entriesBooked;
            case 3: return tellingsTold;
            default: return BAD;
        }
    }

    private int timesAnew() {
        int times = 0;
        for (int part = 0; part < PARTS; part++) {
            times += made[part];
        }
        return times;
    }

    private int makeAnew(int part, int a, int b, int c) {
        if (!within(part, 0, PARTS - 1) || made[part] >= MOST_ANEW) {
            return 0;
        }
        made[part]++;
        switch (part) {
            case 0: saw.anew(a, b); break;
            case 1: rips.anew(a, b, c); break;
            case 2: joined.anew(a, b); break;
            case 3: turned.anew(); break;
            case 4: nails.anew(); break;
            case 5: sheets.anew(a, b, c); break;
            case 6: router.anew(a); break;
            case 7: plans.anew(a); break;
            case 8: prices.anew(); break;
            default: shop.anew(); break;
        }
        return 1;
    }

    private int addWork(int job, int kind, long amount) {
        int hours = (int) Math.max(1, Math.min(100, amount));
        int step = plans.addStep(job, kind, hours, 0);
        return step == NONE ? BAD : step;
    }

    private int tellFact(int letter, boolean known, long number, int below) {
        if (known && number >= -FACT_MOST && number <= FACT_MOST) {
            prices.setFact(letter, (int) number, below);
            return 1;
        }
        prices.setFact(letter, 0, 0);
        return 0;
    }

    private static void needThing(boolean is) {
        if (!is) {
            throw new IndexOutOfBoundsException();
        }
    }

    private static void needNumber(boolean is) {
        if (!is) {
            throw new IllegalArgumentException();
        }
    }

    private static void needState(boolean is) {
        if (!is) {
            throw new IllegalStateException();
        }
    }

    // The faults that the desk asks for without throwing: 1, 2, 3 by the order of OF ALL PARTS.
    private static void refuse(int fault) {
        needThing(fault != 1);
        needNumber(fault != 2);
        needState(fault != 3);
    }

    private static boolean within(int v, int least, int most) {
        return v >= least && v <= most;
    }

    private static int nearest(int v, int least, int most) {
        return Math.max(least, Math.min(most, v));
    }

    private static int truth(boolean is) {
        return is ? 1 : 0;
    }

    private static long up(long above, long below) {
        return below < 1 ? 0 : -Math.floorDiv(-above, below);
    }

    private static long down(long above, long below) {
        return below < 1 ? 0 : Math.floorDiv(above, below);
    }

    // Euclid's steps on longs stay below a hundred.
    private static long divisor(long a, long b) {
        long x = a < 0 ? -a : a;
        long y = b;
        for (int i = 0; i < 200 && y != 0; i++) {
            long rest = x % y;
            x = y;
            y = rest;
        }
        return x < 1 ? 1 : x;
    }

    private static long fraction(long above, long below, int part) {
        long common = divisor(above, below);
        if (common < 1) {
            return 0;
        }
        return part == 0 ? above / common : below / common;
    }

    /** Signs told one by one; a place beyond the end holds no sign. */
    private static final class Text {
        private final int[] signs = new int[240];
        private final int room;
        private int length;

        Text(int room) {
            this.room = Math.min(room, signs.length);
        }

        boolean add(int sign) {
            if (length >= room || length >= signs.length || !within(sign, SPACE, 126)) {
                return false;
            }
            signs[length] = sign;
            length++;
            return true;
        }

        boolean addNumber(int v) {
            boolean fits = true;
            int size = 1;
            while (size <= v / 10 && size <= 100000000) {
                size *= 10;
            }
            for (; size > 0; size /= 10) {
                fits = add('0' + v / size % 10);
            }
            return fits;
        }

        boolean addAll(String words) {
            boolean fits = true;
            for (int i = 0; i < words.length(); i++) {
                fits = add(words.charAt(i));
            }
            return fits;
        }

        void clear() {
            length = 0;
        }

        int length() {
            return length;
        }

        int at(int i) {
            return i >= 0 && i < length && i < signs.length ? signs[i] : NONE;
        }

        boolean isDigit(int i) {
            return at(i) >= '0' && at(i) <= '9';
        }

        int behindSpaces(int from) {
            int i = from;
            while (i < length && at(i) == SPACE) {
                i++;
            }
            return i;
        }

        int behindDigits(int from, int most) {
            int i = from;
            while (i < from + most && at(i) >= '0' && at(i) <= '9') {
                i++;
            }
            return i;
        }

        int number(int from, int to) {
            int v = 0;
            for (int i = from; i < to; i++) {
                v = 10 * v + at(i) - '0';
            }
            return v;
        }
    }

    /** SAW: logs on a grid. A key is worth less a share for each board: more worth first, then fewer boards. */
    private static final class Saw {
        private static final int ROOM = 20;
        private static final int SIZES = 8;
        private static final int SHARE = 1024;
        private static final int STRIDE = ROOM + 1;
        private static final int THICK = 0;
        private static final int WIDE = 1;
        private static final int WORTH = 2;
        private static final int WANE = 3;

        private int side;
        private int kerf;
        private final int[] ends = new int[ROOM * ROOM];
        private final int[] knots = new int[ROOM * ROOM];
        private final int[][] sizes = new int[4][SIZES];
        private int sizeCount;
        private boolean sawn;
        private int turn;
        private int slabs;
        private int boards;
        private final int[][] board = new int[3][ROOM * ROOM];
        private final int[] losses = new int[STRIDE * STRIDE];
        private final int[] lacks = new int[STRIDE * STRIDE];
        private final long[] row = new long[STRIDE];
        private final int[] rowPick = new int[STRIDE];
        private final long[] best = new long[STRIDE];
        private final int[] bestPick = new int[STRIDE];

        Saw() {
            side = 12;
            kerf = 1;
        }

        void anew(int toSide, int toKerf) {
            side = nearest(toSide, 1, ROOM);
            kerf = nearest(toKerf, 0, 4);
            Arrays.fill(ends, 0);
            Arrays.fill(knots, 0);
            sizeCount = 0;
            sawn = false;
        }

        long call(int n, int a, int b, int c, int d) {
            switch (n) {
                case 1: return cell(a, b, c, d != 0);
                case 2: return span(a, b, c, d);
                case 3: return knot(a, b, c);
                case 4: return size(a, b, c, d);
                case 5: return run();
                case 6: return about(a, b);
                case 7: return all(a);
                case 8: return worth(a);
                case 9: return yields(a);
                case 10: return may(a, b, c, d);
                case 11: return apart(a, b);
                case 12: return wood();
                default: return NO_CALL;
            }
        }

        private int cell(int end, int x, int y, boolean in) {
            needThing(within(end, 0, 1) && onGrid(x, y));
            int bit = 1 << end;
            int at = y * ROOM + x;
            if (((ends[at] & bit) != 0) == in) {
                return 0;
            }
            ends[at] ^= bit;
            sawn = false;
            return 1;
        }

        private int span(int end, int y, int from, int to) {
            needThing(within(end, 0, 1) && within(y, 0, side - 1));
            needNumber(within(from, 0, side) && within(to, from, side));
            for (int x = from; x < to; x++) {
                ends[y * ROOM + x] |= 1 << end;
            }
            sawn = false;
            return 0;
        }

        private int knot(int x, int y, int loss) {
            needThing(onGrid(x, y));
            needNumber(within(loss, 0, 10000));
            int at = y * ROOM + x;
            if (knots[at] == loss) {
                return 0;
            }
            knots[at] = loss;
            sawn = false;
            return 1;
        }

        private int size(int thick, int wide, int worth, int wane) {
            needNumber(within(thick, 1, 20) && within(wide, 1, 20));
            needNumber(within(worth, 0, 100000) && within(wane, 0, 400));
            needState(sizeCount < SIZES);
            sizes[THICK][sizeCount] = thick;
            sizes[WIDE][sizeCount] = wide;
            sizes[WORTH][sizeCount] = worth;
            sizes[WANE][sizeCount] = wane;
            sawn = false;
            sizeCount++;
            return sizeCount - 1;
        }

        private int run() {
            long lying = solve(0);
            long upright = solve(1);
            turn = lying >= upright ? 0 : 1;
            if (turn == 0) {
                solve(0);
            }
            lay();
            sawn = true;
            return boards;
        }

        private long about(int k, int what) {
            needState(sawn);
            needThing(within(k, 0, boards - 1) && within(what, 0, 6));
            int x = board[1][k];
            int y = board[2][k];
            switch (what) {
                case 0: return board[0][k];
                case 1: return x;
                case 2: return y;
                case 3: return alongX(board[0][k], turn);
                case 4: return alongY(board[0][k], turn);
                case 5: return boardWorth(k);
                default: return lack(x, y, alongX(board[0][k], turn), alongY(board[0][k], turn));
            }
        }

        private long all(int what) {
            needState(sawn);
            needThing(within(what, 0, 3));
            switch (what) {
                case 0: return sawnWorth();
                case 1: return turn;
                case 2: return slabs;
                default: return boards;
            }
        }

        private long worth(int ofTurn) {
            needThing(within(ofTurn, 0, 1));
            return up(solve(ofTurn), SHARE);
        }

        private long yields(int part) {
            needState(sawn);
            needThing(within(part, 0, 1));
            long wood = wood();
            if (wood < 1) {
                return part;
            }
            long cells = 0;
            for (int k = 0; k < boards; k++) {
                cells += sizes[THICK][board[0][k]] * sizes[WIDE][board[0][k]];
            }
            return fraction(cells, wood, part);
        }

        private int may(int size, int x, int y, int ofTurn) {
            needThing(within(size, 0, sizeCount - 1) && within(ofTurn, 0, 1));
            int w = alongX(size, ofTurn);
            int h = alongY(size, ofTurn);
            if (!onGrid(x, y) || x + w > side || y + h > side) {
                return 0;
            }
            return truth(lack(x, y, w, h) <= sizes[WANE][size]);
        }

        private int apart(int a, int b) {
            needState(sawn);
            needThing(within(a, 0, boards - 1) && within(b, 0, boards - 1));
            boolean alongX = far(board[1][a], alongX(board[0][a], turn), board[1][b], alongX(board[0][b], turn));
            boolean alongY = far(board[2][a], alongY(board[0][a], turn), board[2][b], alongY(board[0][b], turn));
            return truth(alongX || alongY);
        }

        private boolean far(int from, int size, int otherFrom, int otherSize) {
            return otherFrom >= from + size + kerf || from >= otherFrom + otherSize + kerf;
        }

        private int wood() {
            int count = 0;
            for (int y = 0; y < side; y++) {
                for (int x = 0; x < side; x++) {
                    count += truth(isWood(x, y));
                }
            }
            return count;
        }

        boolean wasSawn() {
            return sawn;
        }

        boolean has(int k) {
            return sawn && within(k, 0, boards - 1);
        }

        int longerSide(int k) {
            return has(k) ? Math.max(sizes[THICK][board[0][k]], sizes[WIDE][board[0][k]]) : 0;
        }

        long sawnWorth() {
            long sum = 0;
            for (int k = 0; k < boards && sawn; k++) {
                sum += boardWorth(k);
            }
            return sum;
        }

        private boolean onGrid(int x, int y) {
            return within(x, 0, side - 1) && within(y, 0, side - 1);
        }

        private boolean isWood(int x, int y) {
            return (ends[y * ROOM + x] & 3) == 3;
        }

        private int alongX(int size, int ofTurn) {
            return ofTurn == 0 ? sizes[WIDE][size] : sizes[THICK][size];
        }

        private int alongY(int size, int ofTurn) {
            return ofTurn == 0 ? sizes[THICK][size] : sizes[WIDE][size];
        }

        private int boardWorth(int k) {
            int size = board[0][k];
            int loss = 0;
            for (int y = board[2][k]; y < board[2][k] + alongY(size, turn); y++) {
                for (int x = board[1][k]; x < board[1][k] + alongX(size, turn); x++) {
                    loss += knots[y * ROOM + x];
                }
            }
            return Math.max(0, sizes[WORTH][size] - loss);
        }

        private int lack(int x0, int y0, int w, int h) {
            int count = 0;
            for (int y = y0; y < y0 + h; y++) {
                for (int x = x0; x < x0 + w; x++) {
                    count += truth(!isWood(x, y));
                }
            }
            return count;
        }

        // Both turns go by the same tables: u runs along a slab, v from slab to slab.
        private long solve(int ofTurn) {
            sumUp(ofTurn);
            best[side] = 0;
            for (int v = side - 1; v >= 0; v--) {
                best[v] = best[v + 1];
                bestPick[v] = 0;
                for (int thick = 1; thick <= side - v; thick++) {
                    long slab = hasThickness(thick) ? solveSlab(v, thick) : 0;
                    long key = slab + best[Math.min(side, v + thick + kerf)];
                    if (slab > 0 && (key > best[v] || key == best[v] && bestPick[v] == 0)) {
                        best[v] = key;
                        bestPick[v] = thick;
                    }
                }
            }
            return best[0];
        }

        private boolean hasThickness(int thick) {
            for (int s = 0; s < sizeCount; s++) {
                if (sizes[THICK][s] == thick) {
                    return true;
                }
            }
            return false;
        }

        private long solveSlab(int v, int thick) {
            row[side] = 0;
            for (int u = side - 1; u >= 0; u--) {
                row[u] = row[u + 1];
                rowPick[u] = NONE;
                for (int s = 0; s < sizeCount; s++) {
                    int worth = sizes[THICK][s] == thick ? worthAt(s, u, v) : NONE;
                    if (worth > 0) {
                        long key = (long) worth * SHARE - 1 + row[Math.min(side, u + sizes[WIDE][s] + kerf)];
                        if (key > row[u] || key == row[u] && rowPick[u] == NONE) {
                            row[u] = key;
                            rowPick[u] = s;
                        }
                    }
                }
            }
            return row[0];
        }

        private int worthAt(int s, int u, int v) {
            int wide = sizes[WIDE][s];
            int thick = sizes[THICK][s];
            if (u + wide > side || v + thick > side || sum(lacks, u, v, wide, thick) > sizes[WANE][s]) {
                return NONE;
            }
            return Math.max(0, sizes[WORTH][s] - sum(losses, u, v, wide, thick));
        }

        private void sumUp(int ofTurn) {
            for (int v = 0; v < side; v++) {
                for (int u = 0; u < side; u++) {
                    int x = ofTurn == 0 ? u : v;
                    int y = ofTurn == 0 ? v : u;
                    int at = (v + 1) * STRIDE + u + 1;
                    losses[at] = knots[y * ROOM + x] + before(losses, at);
                    lacks[at] = truth(!isWood(x, y)) + before(lacks, at);
                }
            }
        }

        private static int before(int[] sums, int at) {
            return sums[at - 1] + sums[at - STRIDE] - sums[at - STRIDE - 1];
        }

        private static int sum(int[] sums, int u, int v, int w, int h) {
            int top = v * STRIDE + u;
            int low = (v + h) * STRIDE + u;
            return sums[low + w] - sums[low] - sums[top + w] + sums[top];
        }

        private void lay() {
            slabs = 0;
            boards = 0;
            int next = 0;
            for (int v = 0; v < side; v++) {
                if (v >= next && bestPick[v] > 0) {
                    solveSlab(v, bestPick[v]);
                    laySlab(v);
                    slabs++;
                    next = v + bestPick[v] + kerf;
                }
            }
        }

        private void laySlab(int v) {
            int next = 0;
            for (int u = 0; u < side; u++) {
                if (u >= next && rowPick[u] != NONE && boards < ROOM * ROOM) {
                    board[0][boards] = rowPick[u];
                    board[1][boards] = turn == 0 ? u : v;
                    board[2][boards] = turn == 0 ? v : u;
                    boards++;
                    next = u + sizes[WIDE][rowPick[u]] + kerf;
                }
            }
        }
    }

    /** RIPS: boards cut by stages. A key is worth less a share for each piece: more worth first, then fewer pieces. */
    private static final class Rips {
        static final int ALONG_X = 2;
        static final int WHICH = 4;

        private static final int MOST_LONG = 24;
        private static final int MOST_WIDE = 10;
        private static final int BOXES = 20;
        private static final int KINDS = 8;
        private static final int PLAN_ROOM = MOST_LONG * MOST_WIDE;
        private static final int GANG_ROOM = 512;
        private static final int Y_SPANS = MOST_WIDE * (MOST_WIDE + 1) / 2;
        private static final int RECTANGLES = MOST_LONG * (MOST_LONG + 1) / 2 * Y_SPANS;
        private static final int SHARE = 512;
        private static final int MOST_PANEL = 100;
        private static final int TOO_MANY = 1000;
        private static final int REACH = 65536;
        private static final int BOW_MOST = 16777216;
        private static final int TOP = 3;
        private static final int WIDTH = 0;
        private static final int LOW = 1;
        private static final int HIGH = 2;
        private static final int WORTH = 3;
        private static final int NEED = 4;
        private static final int ALLOWS = 5;

        private int step;
        private int longSteps;
        private int wideSteps;
        private final int[][] faults = new int[6][BOXES];
        private int faultCount;
        private final int[][] pieces = new int[6][KINDS];
        private int pieceCount;
        private final int[] gang = new int[GANG_ROOM];
        private int gangCount;
        private int margin;
        private int bow;
        private boolean fresh;
        private int way;
        private int stages;
        private final int[][] plan = new int[5][PLAN_ROOM];
        private final int[][] kept = new int[5][PLAN_ROOM];
        private int planCount;
        private final long[][] priced = new long[2][KINDS];
        private long bound;
        private final long[][] tables = new long[4][];
        private final int[] fits = new int[RECTANGLES];
        private final int[] sums = new int[(PLAN_ROOM + 1) * (MOST_PANEL + 1)];

        Rips() {
            for (int level = 0; level < TOP; level++) {
                tables[level] = new long[RECTANGLES];
            }
            tables[TOP] = new long[MOST_LONG + 1];
            anew(100, 240, 10);
        }

        void anew(int width, int length, int toStep) {
            step = nearest(toStep, 1, REACH);
            longSteps = (int) Math.min(MOST_LONG, down(nearest(length, 1, REACH), step));
            wideSteps = (int) Math.min(MOST_WIDE, down(nearest(width, 1, REACH), step));
            faultCount = 0;
            pieceCount = 0;
            gangCount = 0;
            margin = 0;
            bow = BOW_MOST;
            fresh = false;
            way = 0;
            stages = 2;
            planCount = 0;
        }

        long call(int n, int a, int b, int c, int d, int e, int f) {
            switch (n) {
                case 1: return fault(a, b, c, d, e, f);
                case 2: return piece(a, b, c, d);
                case 3: return allows(a, b, c);
                case 4: return gang(a);
                case 5: return need(a, b);
                case 6: return margin(a);
                case 7: return bow(a);
                case 8: return run(a, b);
                case 9: return prices(a);
                case 10: return worth();
                case 11: return at(a, b);
                case 12: return clear(a);
                case 13: return bound();
                case 14: return price(a, b);
                case 15: return salvage(a, b);
                case 16: return panel(a, b);
                case 17: return greatest();
                default: return NO_CALL;
            }
        }

        private int fault(int face, int kind, int x, int y, int w, int h) {
            needThing(within(face, 0, 1));
            needState(faultCount < BOXES);
            needNumber(within(kind, 0, 7) && within(x, -REACH, REACH) && within(y, -REACH, REACH));
            needNumber(within(w, 0, REACH) && within(h, 0, REACH));
            if (w == 0 || h == 0) {
                return 0;
            }
            faults[0][faultCount] = face;
            faults[1][faultCount] = kind;
            faults[2][faultCount] = x;
            faults[3][faultCount] = y;
            faults[4][faultCount] = w;
            faults[5][faultCount] = h;
            faultCount++;
            fresh = false;
            return 1;
        }

        private int piece(int width, int low, int high, int worth) {
            needState(pieceCount < KINDS);
            needNumber(within(width, 1, REACH) && within(low, 1, REACH) && within(high, low, REACH));
            needNumber(within(worth, 1, 100000));
            pieces[WIDTH][pieceCount] = (int) up(width, step);
            pieces[LOW][pieceCount] = low;
            pieces[HIGH][pieceCount] = high;
            pieces[WORTH][pieceCount] = worth;
            pieces[NEED][pieceCount] = NONE;
            pieces[ALLOWS][pieceCount] = 0;
            fresh = false;
            pieceCount++;
            return pieceCount - 1;
        }

        private int allows(int piece, int face, int kind) {
            needThing(within(piece, 0, pieceCount - 1) && within(face, 0, 1));
            needNumber(within(kind, 0, 7));
            int bit = 1 << (8 * face + kind);
            if ((pieces[ALLOWS][piece] & bit) != 0) {
                return 0;
            }
            pieces[ALLOWS][piece] |= bit;
            fresh = false;
            return 1;
        }

        private int gang(int width) {
            needNumber(within(width, 1, REACH));
            int steps = (int) up(width, step);
            if (inGang(steps) || gangCount >= GANG_ROOM) {
                return 0;
            }
            gang[gangCount] = steps;
            gangCount++;
            fresh = false;
            return 1;
        }

        private int need(int piece, int n) {
            needThing(within(piece, 0, pieceCount - 1));
            needNumber(within(n, 0, 1000));
            if (pieces[NEED][piece] == n) {
                return 0;
            }
            pieces[NEED][piece] = n;
            fresh = false;
            return 1;
        }

        private int margin(int v) {
            needNumber(within(v, 0, REACH));
            if (margin == v) {
                return 0;
            }
            margin = v;
            fresh = false;
            return 1;
        }

        private int bow(int most) {
            needNumber(within(most, 1, BOW_MOST));
            if (bow == most) {
                return 0;
            }
            bow = most;
            fresh = false;
            return 1;
        }

        private int run(int toWay, int toStages) {
            needNumber(within(toWay, 0, 1) && within(toStages, 1, 3));
            way = toWay;
            stages = toStages;
            Arrays.fill(priced[0], 0);
            fit();
            cut();
            System.arraycopy(priced[0], 0, priced[1], 0, KINDS);
            bound = trueWorth();
            fresh = true;
            return planCount;
        }

        private int prices(int rounds) {
            needNumber(within(rounds, 1, 6));
            Arrays.fill(priced[0], 0);
            fit();
            bound = ENDLESS;
            int keptCount = NONE;
            long keptWorth = NONE;
            int r = 0;
            boolean settled = false;
            while (r < rounds && !settled) {
                r++;
                cut();
                bound = Math.min(bound, value());
                if (!tooMany() && trueWorth() > keptWorth) {
                    keptWorth = trueWorth();
                    keptCount = planCount;
                    copy(plan, kept);
                }
                settled = settled();
                System.arraycopy(priced[0], 0, priced[1], 0, KINDS);
                raise(Math.max(1, 256 / Math.max(1, r)));
            }
            if (keptCount == NONE) {
                takeOff();
            } else {
                copy(kept, plan);
                planCount = keptCount;
            }
            fresh = true;
            return r;
        }

        private long worth() {
            needState(fresh);
            return trueWorth();
        }

        private long at(int k, int what) {
            needState(fresh);
            needThing(within(k, NONE, planCount - 1));
            needNumber(within(what, 0, 5));
            if (k == NONE) {
                return planCount;
            }
            return what == 5 ? trueWorth(k) : plan[what][k];
        }

        private int clear(int k) {
            needState(fresh);
            needThing(within(k, 0, planCount - 1));
            for (int f = 0; f < faultCount; f++) {
                if (overlaps(f, plan[0][k], plan[1][k], plan[2][k], plan[3][k])) {
                    return 0;
                }
            }
            return 1;
        }

        private long bound() {
            needState(fresh);
            return bound;
        }

        private long price(int piece, int part) {
            needState(fresh);
            needThing(within(piece, 0, pieceCount - 1) && within(part, 0, 2));
            switch (part) {
                case 0: return priced[1][piece];
                case 1: return count(piece);
                default: return pieces[NEED][piece];
            }
        }

        private int greatest() {
            needState(fresh);
            return truth(trueWorth() == bound);
        }

        // Rows are counted up to the wanted one; for NONE through to the end.
        private int salvage(int k, int what) {
            needState(fresh);
            needThing(k >= NONE);
            int rows = 0;
            int answer = NONE;
            for (int y = 0; y < wideSteps; y++) {
                int covered = covered(y);
                int x = 0;
                while (x < longSteps) {
                    int from = x;
                    while (x < longSteps && (covered >> x & 1) == 0) {
                        x++;
                    }
                    if (x > from) {
                        if (rows == k) {
                            answer = what == 0 ? from : what == 1 ? y : x - from;
                        }
                        rows++;
                    }
                    x++;
                }
            }
            needThing(k < rows);
            needNumber(within(what, 0, 2));
            return k == NONE ? rows : answer;
        }

        private int covered(int y) {
            int covered = 0;
            for (int k = 0; k < planCount; k++) {
                if (within(y, plan[1][k], plan[1][k] + plan[3][k] - 1)) {
                    covered |= ((1 << plan[ALONG_X][k]) - 1) << plan[0][k];
                }
            }
            return covered;
        }

        private int panel(int width, int k) {
            needState(fresh);
            needNumber(within(width, 1, MOST_PANEL) && k >= 0);
            sumPanels(width);
            int left = width;
            int place = 0;
            for (int i = 0; i < planCount && left > 0; i++) {
                int w = plan[3][i];
                int least = fewest(i, left);
                if (least < TOO_MANY && w <= left && fewest(i + 1, left - w) + 1 == least) {
                    if (place == k) {
                        return i;
                    }
                    place++;
                    left -= w;
                }
            }
            return NONE;
        }

        private int fewest(int from, int width) {
            return sums[from * (MOST_PANEL + 1) + width];
        }

        private void sumPanels(int width) {
            for (int w = 0; w <= width; w++) {
                sums[planCount * (MOST_PANEL + 1) + w] = w == 0 ? 0 : TOO_MANY;
            }
            for (int i = planCount - 1; i >= 0; i--) {
                for (int w = 0; w <= width; w++) {
                    int with = w < plan[3][i] ? TOO_MANY : fewest(i + 1, w - plan[3][i]) + 1;
                    sums[i * (MOST_PANEL + 1) + w] = Math.min(with, fewest(i + 1, w));
                }
            }
        }

        boolean planned() {
            return fresh;
        }

        int planSize() {
            return fresh ? planCount : 0;
        }

        int planned(int k, int what) {
            return within(k, 0, planSize() - 1) && within(what, 0, 4) ? plan[what][k] : NONE;
        }

        long trueWorth() {
            long sum = 0;
            for (int k = 0; k < planCount; k++) {
                sum += trueWorth(k);
            }
            return sum;
        }

        private long trueWorth(int k) {
            return (long) pieces[WORTH][plan[WHICH][k]] * plan[ALONG_X][k];
        }

        private int count(int piece) {
            int count = 0;
            for (int k = 0; k < planCount; k++) {
                count += truth(plan[WHICH][k] == piece);
            }
            return count;
        }

        private boolean inGang(int steps) {
            for (int i = 0; i < gangCount; i++) {
                if (gang[i] == steps) {
                    return true;
                }
            }
            return false;
        }

        private boolean overlaps(int f, int x, int y, int w, int h) {
            int left = faults[2][f] - margin;
            int right = faults[2][f] + faults[4][f] + margin;
            int above = faults[3][f] - margin;
            int below = faults[3][f] + faults[5][f] + margin;
            return left < (x + w) * step && right > x * step && above < (y + h) * step && below > y * step;
        }

        private static int rectangle(int x0, int x1, int y0, int y1) {
            return (x1 * (x1 - 1) / 2 + x0) * Y_SPANS + y1 * (y1 - 1) / 2 + y0;
        }

        // A segment from p to q on the way that is cut, from oa to ob on the other one.
        private static int segment(boolean ripped, int p, int q, int oa, int ob) {
            return ripped ? rectangle(oa, ob, p, q) : rectangle(p, q, oa, ob);
        }

        private void fit() {
            Arrays.fill(fits, 0);
            for (int piece = 0; piece < pieceCount; piece++) {
                int w = pieces[WIDTH][piece];
                for (int y = 0; y <= wideSteps - w; y++) {
                    fitRow(piece, y, w, badSteps(piece, y, w));
                }
            }
        }

        private void fitRow(int piece, int y, int w, int bad) {
            for (int x0 = 0; x0 < longSteps; x0++) {
                for (int x1 = x0 + 1; x1 <= longSteps && (bad >> (x1 - 1) & 1) == 0; x1++) {
                    int length = (x1 - x0) * step;
                    if (length <= bow && within(length, pieces[LOW][piece], pieces[HIGH][piece])) {
                        fits[rectangle(x0, x1, y, y + w)] |= 1 << piece;
                    }
                }
            }
        }

        private int badSteps(int piece, int y, int w) {
            int bad = 0;
            for (int f = 0; f < faultCount; f++) {
                int bit = 8 * faults[0][f] + faults[1][f];
                for (int x = 0; x < longSteps && (pieces[ALLOWS][piece] >> bit & 1) == 0; x++) {
                    if (overlaps(f, x, y, 1, w)) {
                        bad |= 1 << x;
                    }
                }
            }
            return bad;
        }

        private void cut() {
            planCount = 0;
            if (longSteps < 1 || wideSteps < 1) {
                return;
            }
            solveNoStage();
            for (int level = 1; level < stages; level++) {
                solveLevel(level);
            }
            solveTop();
            layTop();
        }

        private long pricedWorth(int piece, int length) {
            return (long) pieces[WORTH][piece] * length - priced[0][piece];
        }

        private int bestPiece(int fitting, int length) {
            int best = NONE;
            long bestWorth = 0;
            for (int piece = 0; piece < pieceCount; piece++) {
                long worth = (long) pieces[WORTH][piece] * length - priced[0][piece];
                if ((fitting >> piece & 1) == 1 && (best == NONE || worth > bestWorth)) {
                    best = piece;
                    bestWorth = worth;
                }
            }
            return best;
        }

        private void solveNoStage() {
            for (int x1 = 1; x1 <= longSteps; x1++) {
                for (int x0 = 0; x0 < x1; x0++) {
                    int first = rectangle(x0, x1, 0, 1);
                    for (int at = first; at < first + Y_SPANS; at++) {
                        int piece = fits[at] == 0 ? NONE : bestPiece(fits[at], x1 - x0);
                        tables[0][at] = piece == NONE ? 0 : pricedWorth(piece, x1 - x0) * SHARE - 1;
                    }
                }
            }
        }

        private boolean isRipped(int level) {
            return ((stages - level + way) & 1) == 0;
        }

        // The stage below the first has segments of whole lengths alone: only their ends are needed.
        private void solveLevel(int level) {
            boolean ripped = isRipped(level);
            int size = ripped ? wideSteps : longSteps;
            int others = ripped ? longSteps : wideSteps;
            int firstEnd = stages - level == 1 ? size : 1;
            for (int end = firstEnd; end <= size; end++) {
                for (int ob = 1; ob <= others; ob++) {
                    for (int oa = 0; oa < ob; oa++) {
                        if (level == 1 && !ripped && !hasWidth(ob - oa)) {
                            clearLine(end, oa, ob);
                        } else {
                            solveLine(level, ripped, end, oa, ob);
                        }
                    }
                }
            }
        }

        // The last stage has no piece where no PIECE is as wide; looking for some is most of the work.
        private boolean hasWidth(int steps) {
            for (int piece = 0; piece < pieceCount; piece++) {
                if (pieces[WIDTH][piece] == steps) {
                    return true;
                }
            }
            return false;
        }

        private void clearLine(int end, int y0, int y1) {
            for (int p = 0; p < end; p++) {
                tables[1][rectangle(p, end, y0, y1)] = 0;
            }
        }

        // A segment whose plan is worth nothing has no piece or is worse than waste: it is never taken.
        private void solveLine(int level, boolean ripped, int end, int oa, int ob) {
            long[] done = tables[level];
            long[] below = tables[level - 1];
            for (int p = end - 1; p >= 0; p--) {
                long best = p + 1 < end ? done[segment(ripped, p + 1, end, oa, ob)] : 0;
                for (int q = p + 1; q <= end; q++) {
                    long key = below[segment(ripped, p, q, oa, ob)];
                    if (key > 0) {
                        key += q < end ? done[segment(ripped, q, end, oa, ob)] : 0;
                        best = Math.max(best, key);
                    }
                }
                done[segment(ripped, p, end, oa, ob)] = best;
            }
        }

        private long topKey(int p, int q) {
            boolean ripped = isRipped(stages);
            if (ripped && gangCount > 0 && !inGang(q - p)) {
                return 0;
            }
            return tables[stages - 1][segment(ripped, p, q, 0, ripped ? longSteps : wideSteps)];
        }

        private void solveTop() {
            long[] top = tables[TOP];
            int end = isRipped(stages) ? wideSteps : longSteps;
            top[end] = 0;
            for (int p = end - 1; p >= 0; p--) {
                top[p] = top[p + 1];
                for (int q = p + 1; q <= end; q++) {
                    long key = topKey(p, q);
                    if (key > 0) {
                        top[p] = Math.max(top[p], key + top[q]);
                    }
                }
            }
        }

        private void layTop() {
            boolean ripped = isRipped(stages);
            int end = ripped ? wideSteps : longSteps;
            int next = 0;
            for (int p = 0; p < end; p++) {
                for (int q = end; q > p && p >= next; q--) {
                    long key = topKey(p, q);
                    if (key > 0 && key + tables[TOP][q] == tables[TOP][p]) {
                        lay(stages - 1, ripped ? 0 : p, ripped ? longSteps : q, ripped ? p : 0, ripped ? q : wideSteps);
                        next = q;
                    }
                }
            }
        }

        private void lay(int level, int x0, int x1, int y0, int y1) {
            if (level < 1) {
                layPiece(x0, x1, y0, y1);
                return;
            }
            boolean ripped = isRipped(level);
            int begin = ripped ? y0 : x0;
            int end = ripped ? y1 : x1;
            int oa = ripped ? x0 : y0;
            int ob = ripped ? x1 : y1;
            int next = begin;
            for (int p = begin; p < end; p++) {
                long all = tables[level][segment(ripped, p, end, oa, ob)];
                for (int q = end; q > p && p >= next; q--) {
                    long key = tables[level - 1][segment(ripped, p, q, oa, ob)];
                    long behind = q < end ? tables[level][segment(ripped, q, end, oa, ob)] : 0;
                    if (key > 0 && key + behind == all) {
                        lay(level - 1, ripped ? oa : p, ripped ? ob : q, ripped ? p : oa, ripped ? q : ob);
                        next = q;
                    }
                }
            }
        }

        private void layPiece(int x0, int x1, int y0, int y1) {
            int piece = bestPiece(fits[rectangle(x0, x1, y0, y1)], x1 - x0);
            if (piece == NONE || planCount >= PLAN_ROOM) {
                return;
            }
            plan[0][planCount] = x0;
            plan[1][planCount] = y0;
            plan[ALONG_X][planCount] = x1 - x0;
            plan[3][planCount] = y1 - y0;
            plan[WHICH][planCount] = piece;
            planCount++;
        }

        private long value() {
            long sum = trueWorth();
            for (int piece = 0; piece < pieceCount; piece++) {
                if (pieces[NEED][piece] != NONE) {
                    sum += priced[0][piece] * (pieces[NEED][piece] - count(piece));
                }
            }
            return sum;
        }

        private boolean tooMany() {
            for (int piece = 0; piece < pieceCount; piece++) {
                if (pieces[NEED][piece] != NONE && count(piece) > pieces[NEED][piece]) {
                    return true;
                }
            }
            return false;
        }

        private boolean settled() {
            for (int piece = 0; piece < pieceCount; piece++) {
                if (priced[0][piece] > 0 && count(piece) != pieces[NEED][piece]) {
                    return false;
                }
            }
            return !tooMany();
        }

        private void raise(int by) {
            for (int piece = 0; piece < pieceCount; piece++) {
                if (pieces[NEED][piece] != NONE) {
                    long more = (long) (count(piece) - pieces[NEED][piece]) * by;
                    priced[0][piece] = Math.max(0, priced[0][piece] + more);
                }
            }
        }

        private void takeOff() {
            for (int piece = 0; piece < pieceCount; piece++) {
                int over = pieces[NEED][piece] == NONE ? 0 : count(piece) - pieces[NEED][piece];
                for (int k = planCount - 1; k >= 0 && over > 0; k--) {
                    if (plan[WHICH][k] == piece) {
                        drop(k);
                        over--;
                    }
                }
            }
        }

        private void drop(int k) {
            planCount--;
            for (int[] row : plan) {
                for (int i = k; i < planCount; i++) {
                    row[i] = row[i + 1];
                }
            }
        }

        private static void copy(int[][] from, int[][] to) {
            for (int i = 0; i < from.length && i < to.length; i++) {
                System.arraycopy(from[i], 0, to[i], 0, PLAN_ROOM);
            }
        }
    }

    /** FINGERS: pieces joined to a line. A key holds worth, then joints, then waste, the last two taken off. */
    private static final class Fingers {
        private static final int PIECES = 24;
        private static final int STRIDE = 61;
        private static final int PRODUCTS = 6;
        private static final int BARS = 8;
        private static final int MADE_ROOM = 1440;
        private static final int MOST_FIRST = 5;
        private static final int MOST_ORDERS = 120;
        private static final long JOINT_SHARE = 2048;
        private static final long WORTH_SHARE = 65536;
        private static final int BEGIN = 1;
        private static final int AT = 2;
        private static final int JOINED = 3;
        private static final int CURE = 4;
        private static final int LAST_BAD = 2;
        private static final int STOPS = 3;

        private int step;
        private int loss;
        private final int[][] pieces = new int[2][PIECES];
        private int pieceCount;
        private final int[][] products = new int[2][PRODUCTS];
        private int productCount;
        private final int[][] bars = new int[2][BARS];
        private int barCount;
        private int alone;
        private boolean fresh;
        private final int[] order = new int[PIECES];
        private final int[] bestOrder = new int[PIECES];
        private final long[] keys = new long[(PIECES + 1) * STRIDE];
        private final int[] picks = new int[(PIECES + 1) * STRIDE];
        private final int[][] made = new int[5][MADE_ROOM];
        private int madeCount;
        private final int[][] joints = new int[3][PIECES];
        private int jointCount;
        private int waste;
        // How many TESTS were bad, good, whether the latest was bad, and where each RULE stopped the line.
        private final int[] tests = new int[6];

        Fingers() {
            anew(10, 10);
        }

        void anew(int toStep, int toLoss) {
            step = nearest(toStep, 1, 65536);
            loss = (int) up(nearest(toLoss, 1, 65536), step);
            pieceCount = 0;
            productCount = 0;
            barCount = 0;
            alone = 0;
            fresh = false;
            Arrays.fill(tests, 0);
        }

        long call(int n, int a, int b) {
            switch (n) {
                case 1: return piece(a, b);
                case 2: return want(a, b);
                case 3: return bar(a, b);
                case 4: return group(a, b != 0);
                case 5: return run();
                case 6: return order(a);
                case 7: return taken(a);
                case 8: return worth(a);
                case 9: return product(a, b);
                case 10: return joint(a, b);
                case 11: return cure(a, b);
                case 12: return load(a, b);
                case 13: return test(a, b);
                case 14: return counted(a);
                case 15: return stop(a);
                default: return NO_CALL;
            }
        }

        private int pieceFault(int length, int group) {
            if (pieceCount >= PIECES) {
                return 3;
            }
            return length >= 1 && down(length, step) <= 60 && within(group, 0, 7) ? 0 : 2;
        }

        // The number of the new PIECE, or NONE if it is refused. So all that the desk adds.
        int addPiece(int length, int group) {
            if (pieceFault(length, group) != 0) {
                return NONE;
            }
            pieces[0][pieceCount] = (int) down(length, step);
            pieces[1][pieceCount] = group;
            fresh = false;
            pieceCount++;
            return pieceCount - 1;
        }

        private int piece(int length, int group) {
            refuse(pieceFault(length, group));
            return addPiece(length, group);
        }

        private int want(int length, int worth) {
            needNumber(length >= 1 && down(length, step) >= 1 && down(length, step) <= 120);
            needNumber(within(worth, 1, 100000));
            if (productCount >= PRODUCTS) {
                return 0;
            }
            products[0][productCount] = (int) down(length, step);
            products[1][productCount] = worth;
            productCount++;
            fresh = false;
            return 1;
        }

        private int bar(int from, int to) {
            needNumber(from >= 0 && to > from);
            if (barCount >= BARS) {
                return 0;
            }
            bars[0][barCount] = from;
            bars[1][barCount] = to;
            barCount++;
            fresh = false;
            return 1;
        }

        private int group(int g, boolean isAlone) {
            needNumber(within(g, 0, 7));
            if (((alone >> g & 1) == 1) == isAlone) {
                return 0;
            }
            alone ^= 1 << g;
            fresh = false;
            return 1;
        }

        private int run() {
            for (int i = 0; i < pieceCount; i++) {
                order[i] = i;
            }
            return makeLine();
        }

        private int order(int buffer) {
            needNumber(within(buffer, 0, MOST_FIRST));
            int first = Math.min(buffer, pieceCount);
            for (int i = 0; i < pieceCount; i++) {
                order[i] = i;
            }
            solve(pieceCount - 1, first);
            long best = -ENDLESS;
            boolean more = true;
            for (int i = 0; i < MOST_ORDERS && more; i++) {
                solve(first - 1, 0);
                if (keys[0] > best) {
                    best = keys[0];
                    System.arraycopy(order, 0, bestOrder, 0, pieceCount);
                }
                more = nextOrder(first);
            }
            System.arraycopy(bestOrder, 0, order, 0, pieceCount);
            return makeLine();
        }

        private int taken(int k) {
            needState(fresh);
            needThing(within(k, 0, pieceCount - 1));
            return order[k];
        }

        private long worth(int what) {
            needState(fresh);
            needThing(within(what, 0, 2));
            return what == 0 ? lineWorth() : what == 1 ? jointCount : waste;
        }

        private int product(int k, int what) {
            needState(fresh);
            needThing(within(k, 0, madeCount - 1));
            needNumber(within(what, 0, 3));
            return made[what][k];
        }

        private int joint(int k, int what) {
            needState(fresh);
            needThing(within(k, 0, jointCount - 1));
            needNumber(within(what, 0, 2));
            return joints[what][k];
        }

        private int cure(int k, int hours) {
            needState(fresh);
            needThing(within(k, 0, madeCount - 1));
            needNumber(within(hours, 0, 1000));
            if (made[CURE][k] == hours) {
                return 0;
            }
            made[CURE][k] = hours;
            return 1;
        }

        private int load(int k, int hour) {
            needState(fresh);
            needThing(within(k, 0, madeCount - 1));
            return truth(hour >= made[CURE][k]);
        }

        // What is told are eighths: 16 is told by 128, 1000 by 8000.
        private int test(int k, int eighths) {
            needState(fresh);
            needThing(within(k, 0, madeCount - 1));
            needNumber(within(eighths, 0, 8000));
            boolean bad = eighths < 128;
            tests[bad ? 0 : 1]++;
            int count = tests[0] + tests[1];
            stopBy(0, bad, count);
            stopBy(1, bad && tests[LAST_BAD] == 1, count);
            stopBy(2, count >= 10 && tests[0] > count / 10, count);
            tests[LAST_BAD] = truth(bad);
            return count;
        }

        private void stopBy(int rule, boolean broken, int count) {
            if (broken && tests[STOPS + rule] == 0) {
                tests[STOPS + rule] = count;
            }
        }

        private int counted(int good) {
            needThing(within(good, 0, 1));
            return tests[good];
        }

        private int stop(int rule) {
            needThing(within(rule, 0, 2));
            return tests[STOPS + rule];
        }

        boolean wasRun() {
            return fresh;
        }

        long lineWorth() {
            long sum = 0;
            for (int k = 0; k < madeCount && fresh; k++) {
                sum += products[1][made[0][k]];
            }
            return sum;
        }

        private int lengthOf(int place) {
            return pieces[0][order[place]];
        }

        private boolean joins(int place, int have) {
            int piece = order[place];
            int one = pieces[1][order[place - 1]];
            int other = pieces[1][piece];
            if (pieces[0][piece] <= loss || one != other && ((alone >> one | alone >> other) & 1) == 1) {
                return false;
            }
            long at = (long) have * step;
            for (int i = 0; i < barCount; i++) {
                if (at > bars[0][i] && at < bars[1][i]) {
                    return false;
                }
            }
            return true;
        }

        // The place and step (STRIDE to a place) at which a product from here on ends, or NONE.
        private int endOf(int product, int place, int at) {
            int need = products[0][product];
            int have = lengthOf(place) - at;
            if (have >= need) {
                return place * STRIDE + at + need;
            }
            for (int next = place + 1; next < pieceCount && joins(next, have); next++) {
                int more = lengthOf(next) - loss;
                if (have + more >= need) {
                    return next * STRIDE + loss + need - have;
                }
                have += more;
            }
            return NONE;
        }

        private void solve(int last, int first) {
            keys[pieceCount * STRIDE] = 0;
            for (int place = last; place >= first; place--) {
                int length = lengthOf(place);
                keys[place * STRIDE + length] = keys[(place + 1) * STRIDE];
                for (int at = length - 1; at >= 0; at--) {
                    solveAt(place, at);
                }
            }
        }

        private void solveAt(int place, int at) {
            int here = place * STRIDE + at;
            keys[here] = keys[here + 1] - 1;
            picks[here] = NONE;
            for (int product = 0; product < productCount; product++) {
                int end = endOf(product, place, at);
                if (end != NONE) {
                    long joined = end / STRIDE - place;
                    long key = products[1][product] * WORTH_SHARE - joined * JOINT_SHARE + keys[end];
                    if (key > keys[here] || key == keys[here] && picks[here] == NONE) {
                        keys[here] = key;
                        picks[here] = product;
                    }
                }
            }
        }

        // The next order of the first pieces by their numbers; false behind the last one.
        private boolean nextOrder(int first) {
            int i = first - 2;
            while (i >= 0 && order[i] > order[i + 1]) {
                i--;
            }
            if (i < 0) {
                return false;
            }
            int j = first - 1;
            while (j > i && order[j] < order[i]) {
                j--;
            }
            swap(i, j);
            for (int low = i + 1, high = first - 1; low < high; low++, high--) {
                swap(low, high);
            }
            return true;
        }

        private void swap(int i, int j) {
            int held = order[i];
            order[i] = order[j];
            order[j] = held;
        }

        private int makeLine() {
            solve(pieceCount - 1, 0);
            madeCount = 0;
            jointCount = 0;
            waste = 0;
            int here = 0;
            for (int place = 0; place < pieceCount; place++) {
                here = Math.max(here, place * STRIDE);
                while (here < place * STRIDE + lengthOf(place)) {
                    if (picks[here] == NONE) {
                        waste++;
                        here++;
                    } else {
                        here = Math.max(here + 1, make(picks[here], place, here - place * STRIDE));
                    }
                }
            }
            fresh = true;
            return madeCount;
        }

        private int make(int product, int place, int at) {
            int end = endOf(product, place, at);
            int last = end / STRIDE;
            if (end == NONE || madeCount >= MADE_ROOM) {
                return place * STRIDE + lengthOf(place);
            }
            int have = lengthOf(place) - at;
            for (int next = place + 1; next <= last && jointCount < PIECES; next++) {
                joints[0][jointCount] = madeCount;
                joints[1][jointCount] = have;
                joints[2][jointCount] = next;
                jointCount++;
                have += lengthOf(next) - loss;
            }
            made[0][madeCount] = product;
            made[BEGIN][madeCount] = place;
            made[AT][madeCount] = at;
            made[JOINED][madeCount] = last - place;
            made[CURE][madeCount] = 0;
            madeCount++;
            return end;
        }
    }

    /** TURNED: profiles, pieces cut from them, tools, rings, threads and speeds. */
    private static final class Turned {
        private static final int MOST_AT = 64;
        private static final int PLACES = MOST_AT + 1;
        private static final int THINGS = 6;
        private static final int WEDGES = 16;
        private static final int ROWS = 8;
        private static final int MOST_RADIUS = 500;
        // All wedges' degrees are whole in these parts, whatever of 1 .. 12 they are told below.
        private static final int DEGREE = 27720;

        private final int[] radii = new int[PLACES];
        private int end;
        private int ways;
        private final int[][] pieces = new int[THINGS][PLACES];
        private final int[] lengths = new int[THINGS];
        private final int[] pieceWays = new int[THINGS];
        private int pieceCount;
        private final int[] tools = new int[THINGS];
        private int toolCount;
        private final long[][] rings = new long[THINGS][WEDGES];
        private final int[] ringSizes = new int[THINGS];
        private int ringCount;
        private final int[] pitch = new int[2];
        private final int[][] rows = new int[2][ROWS];
        private int rowCount;
        private final int[] lifts = new int[PLACES];
        private final int[] reached = new int[PLACES];

        Turned() {
            anew();
        }

        void anew() {
            end = NONE;
            ways = 0;
            pieceCount = 0;
            toolCount = 0;
            ringCount = 0;
            pitch[1] = 0;
            rowCount = 0;
        }

        long call(int n, int a, int b, int c, int d, int e) {
            switch (n) {
                case 1: return start(a);
                case 2: return line(a, b);
                case 3: return arc(a, b, c, d, e != 0);
                case 4: return turn();
                case 5: return radius(a, b);
                case 6: return about(a, b);
                case 7: return tool(a);
                case 8: return reachedAt(a, b, c);
                case 9: return left(a, b);
                case 10: return passesOf(a, b, c, d);
                case 11: return cut(a, b, c, d, e);
                case 12: return steady(a, b, c);
                case 13: return volume(a, b != 0);
                case 14: return hollow(a, b, c);
                case 15: return copy(a, b);
                case 16: return ring();
                case 17: return wedge(a, b, c);
                case 18: return mitre(a, b, c);
                case 19: return gap(a, b);
                case 20: return closes(a);
                case 21: return flute(a, b, c);
                case 22: return thread(a, b);
                case 23: return threadAt(a, b);
                case 24: return row(a, b);
                case 25: return speed(a, b);
                default: return NO_CALL;
            }
        }

        private int start(int radius) {
            needNumber(within(radius, 0, MOST_RADIUS));
            radii[0] = radius;
            end = 0;
            ways = 0;
            return 0;
        }

        private boolean mayGoTo(int at, int radius) {
            return within(at, Math.max(end, 0) + 1, MOST_AT) && within(radius, 0, MOST_RADIUS);
        }

        private int line(int at, int radius) {
            needNumber(mayGoTo(at, radius));
            needState(end != NONE);
            int from = radii[end];
            for (int x = end + 1; x <= at; x++) {
                radii[x] = from + (int) down((x - end) * (radius - from), at - end);
            }
            end = at;
            ways++;
            return ways;
        }

        private int arc(int at, int radius, int c, int h, boolean upper) {
            needNumber(mayGoTo(at, radius));
            needNumber(within(c, -200, 300) && within(h, -1000, 1500));
            needState(end != NONE);
            int from = radii[end];
            int q = square(end - c) + square(from - h);
            boolean onSide = upper ? from >= h && radius >= h : from <= h && radius <= h;
            if (!onSide || q != square(at - c) + square(radius - h)) {
                return 0;
            }
            for (int x = end + 1; x <= at; x++) {
                int s = root(q - square(x - c));
                radii[x] = nearest(upper ? h + s : h - s, 0, MOST_RADIUS);
            }
            end = at;
            ways++;
            return 1;
        }

        private int turn() {
            needState(pieceCount < THINGS && end != NONE && ways > 0);
            System.arraycopy(radii, 0, pieces[pieceCount], 0, PLACES);
            lengths[pieceCount] = end;
            pieceWays[pieceCount] = ways;
            pieceCount++;
            return pieceCount - 1;
        }

        private int radius(int piece, int x) {
            needThing(isPiece(piece) && within(x, 0, lengths[piece]));
            return pieces[piece][x];
        }

        private int about(int piece, int what) {
            needThing(isPiece(piece) && within(what, 0, 2));
            return what == 0 ? lengths[piece] : what == 1 ? blank(piece) : pieceWays[piece];
        }

        private int tool(int nose) {
            needNumber(within(nose, 0, 12));
            needState(toolCount < THINGS);
            tools[toolCount] = nose;
            toolCount++;
            return toolCount - 1;
        }

        private int reachedAt(int piece, int tool, int x) {
            needThing(has(piece, tool) && within(x, 0, lengths[piece]));
            reach(piece, tool);
            return reached[x];
        }

        private int left(int piece, int tool) {
            needThing(has(piece, tool));
            reach(piece, tool);
            int count = 0;
            for (int x = 0; x <= lengths[piece]; x++) {
                count += truth(reached[x] > pieces[piece][x]);
            }
            return count;
        }

        private int passesOf(int piece, int tool, int depth, int skin) {
            needThing(has(piece, tool));
            needNumber(within(depth, 1, 100) && within(skin, 0, 50));
            return passCount(piece, tool, depth, skin);
        }

        int passCount(int piece, int tool, int depth, int skin) {
            if (!has(piece, tool)) {
                return 0;
            }
            reach(piece, tool);
            int least = blank(piece);
            for (int x = 0; x <= lengths[piece]; x++) {
                least = Math.min(least, reached[x] + skin);
            }
            return (int) up(blank(piece) - least, depth);
        }

        private int cut(int piece, int tool, int depth, int skin, int k) {
            needThing(has(piece, tool));
            needNumber(within(depth, 1, 100) && within(skin, 0, 50) && k >= 1);
            reach(piece, tool);
            int blank = blank(piece);
            long edge = blank - (k - 1L) * depth;
            int count = 0;
            for (int x = 0; x <= lengths[piece]; x++) {
                count += truth(Math.min(blank, reached[x] + skin) < edge);
            }
            return count;
        }

        private int steady(int piece, int span, int k) {
            needThing(isPiece(piece));
            needNumber(within(span, 1, 500) && k >= 0);
            int place = behindHeld(piece, span, 0);
            for (int i = 0; i < k && place < lengths[piece]; i++) {
                place = behindHeld(piece, span, place);
            }
            needState(place < lengths[piece]);
            return place;
        }

        // A farther place only asks for more and leaves a lesser radius: the first that fails ends it.
        private int behindHeld(int piece, int span, int p) {
            int least = pieces[piece][p];
            int q = p;
            while (q < lengths[piece]) {
                least = Math.min(least, pieces[piece][q + 1]);
                if ((q + 1 - p) * span > least) {
                    break;
                }
                q++;
            }
            return Math.max(q, p + 1);
        }

        private long volume(int piece, boolean upper) {
            needThing(isPiece(piece));
            long sum = 0;
            for (int x = 0; x < lengths[piece]; x++) {
                int one = pieces[piece][x];
                int other = pieces[piece][x + 1];
                sum += square(upper ? Math.max(one, other) : Math.min(one, other));
            }
            return upper ? sum * 314160 / 100000 + 1 : sum * 314159 / 100000;
        }

        private int hollow(int piece, int wall, int bar) {
            needThing(isPiece(piece));
            needNumber(within(wall, 1, 100) && within(bar, 0, 100));
            int count = 0;
            for (int x = lengths[piece]; x >= 0 && pieces[piece][x] - wall >= bar; x--) {
                count++;
            }
            return count;
        }

        private int copy(int piece, int other) {
            needThing(isPiece(piece) && isPiece(other));
            int greatest = 0;
            for (int x = 0; x <= Math.min(lengths[piece], lengths[other]); x++) {
                greatest = Math.max(greatest, Math.abs(pieces[piece][x] - pieces[other][x]));
            }
            return greatest;
        }

        private int ring() {
            needState(ringCount < THINGS);
            ringSizes[ringCount] = 0;
            ringCount++;
            return ringCount - 1;
        }

        private int wedge(int ring, int above, int below) {
            needThing(isRing(ring));
            needNumber(within(above, 1, 3600) && within(below, 1, 12));
            needState(ringSizes[ring] < WEDGES);
            rings[ring][ringSizes[ring]] = above * down(DEGREE, below);
            ringSizes[ring]++;
            return ringSizes[ring];
        }

        private long mitre(int ring, int wedge, int part) {
            needThing(isRing(ring) && within(wedge, 0, ringSizes[ring] - 1) && within(part, 0, 1));
            return fraction(rings[ring][wedge], 2 * DEGREE, part);
        }

        private long gap(int ring, int part) {
            needThing(isRing(ring) && within(part, 0, 1));
            return fraction(open(ring), DEGREE, part);
        }

        private int closes(int ring) {
            needThing(isRing(ring));
            return truth(open(ring) == 0);
        }

        private long flute(int n, int k, int part) {
            needThing(within(part, 0, 1));
            needNumber(within(n, 1, 1000) && within(k, 0, n - 1));
            return fraction(k * 360L, n, part);
        }

        private int thread(int above, int below) {
            needNumber(within(above, 1, 1000) && within(below, 1, 1000));
            pitch[0] = above;
            pitch[1] = below;
            return 0;
        }

        private long threadAt(int k, int part) {
            needThing(within(part, 0, 1));
            needNumber(within(k, 0, 100000));
            needState(pitch[1] > 0);
            return fraction((long) k * pitch[0], pitch[1], part);
        }

        private int row(int radius, int turns) {
            int before = rowCount == 0 ? 0 : rows[0][rowCount - 1];
            needNumber(within(radius, before + 1, MOST_RADIUS) && within(turns, 1, 10000));
            needState(rowCount < ROWS);
            rows[0][rowCount] = radius;
            rows[1][rowCount] = turns;
            rowCount++;
            return rowCount;
        }

        private int speed(int piece, int x) {
            needThing(isPiece(piece) && within(x, 0, lengths[piece]));
            needState(rowCount > 0);
            int row = 0;
            while (row < rowCount - 1 && rows[0][row] < pieces[piece][x]) {
                row++;
            }
            return rows[1][row];
        }

        boolean has(int piece, int tool) {
            return isPiece(piece) && within(tool, 0, toolCount - 1);
        }

        private boolean isPiece(int piece) {
            return within(piece, 0, pieceCount - 1);
        }

        private boolean isRing(int ring) {
            return within(ring, 0, ringCount - 1);
        }

        private long open(int ring) {
            long left = 360L * DEGREE;
            for (int wedge = 0; wedge < ringSizes[ring]; wedge++) {
                left -= rings[ring][wedge];
            }
            return left;
        }

        private int blank(int piece) {
            int greatest = 0;
            for (int x = 0; x <= lengths[piece]; x++) {
                greatest = Math.max(greatest, pieces[piece][x]);
            }
            return greatest + 3;
        }

        private void reach(int piece, int tool) {
            int length = lengths[piece];
            int nose = tools[tool];
            Arrays.fill(lifts, -GREATEST);
            Arrays.fill(reached, GREATEST);
            for (int d = -nose; d <= nose; d++) {
                int high = root(nose * nose - d * d);
                for (int x = Math.max(0, -d); x <= Math.min(length, length - d); x++) {
                    lifts[x] = Math.max(lifts[x], pieces[piece][x + d] + high);
                }
            }
            for (int d = -nose; d <= nose; d++) {
                int high = root(nose * nose - d * d);
                for (int x = Math.max(0, -d); x <= Math.min(length, length - d); x++) {
                    reached[x] = Math.min(reached[x], lifts[x + d] - high);
                }
            }
        }

        private static int square(int v) {
            return v * v;
        }

        // The greatest s with s * s <= v; radii and centres keep it below 2000.
        private static int root(int v) {
            int s = 0;
            while (s < 4000 && (s + 1) * (s + 1) <= v) {
                s++;
            }
            return s;
        }
    }

    /** NAILS: fasteners by rules that are told as texts, patterns, places, and teeth in members. */
    private static final class Nails {
        private static final int KINDS = 4;
        private static final int WORDS = 7;
        private static final int STATEMENTS = 16;
        private static final int PATTERN_ROOM = 100;
        private static final int PLACES = 32;
        private static final int MEMBERS = 6;
        private static final int FAR = 10000;
        private static final int PLATE = 100000;
        private static final long LOAD = 1000000000000L;
        private static final int SIZE = 0;
        private static final int FORCE = 1;
        private static final int EDGE = 2;
        private static final int END = 3;
        private static final int SIDE = 4;
        private static final int ROW = 5;
        private static final int THIN = 6;

        private final Text text = new Text(200);
        private final int[][] rules = new int[KINDS][WORDS];
        private final int[][] said = new int[3][STATEMENTS];
        private int wet;
        private int less;
        private final int[][] pattern = new int[2][PATTERN_ROOM];
        private int patternCount;
        private final int[][] places = new int[2][PLACES];
        private int placeCount;
        private final int[][] members = new int[5][MEMBERS];
        private int memberCount;

        Nails() {
            anew();
        }

        void anew() {
            text.clear();
            for (int kind = 0; kind < KINDS; kind++) {
                Arrays.fill(rules[kind], 1);
            }
            wet = 100;
            less = 2;
            patternCount = 0;
            placeCount = 0;
            memberCount = 0;
        }

        long call(int n, int a, int b, int c, int d, int e, int f) {
            switch (n) {
                case 1: return truth(text.add(a));
                case 2: return read();
                case 3: return rule(a, b);
                case 4: return set(a, b);
                case 5: return holds(a, b, c, d, e);
                case 6: return togetherOf(a, b);
                case 7: return count(a, b);
                case 8: return pattern(a, b, c, d);
                case 9: return at(a, b);
                case 10: return place(a, b);
                case 11: return clear();
                case 12: return keeps(a, b, c);
                case 13: return member(a, b, c, d, e);
                case 14: return in(a, b, c);
                case 15: return teeth(a, b, c, d, e, f);
                case 16: return thick(a, b);
                case 17: return hole(a);
                default: return NO_CALL;
            }
        }

        private int read() {
            int count = 0;
            int at = 0;
            boolean more = true;
            while (more && at >= 0 && count < STATEMENTS) {
                at = statement(count, at);
                count++;
                more = at >= 0 && at < text.length();
                if (more) {
                    at = count < STATEMENTS && text.at(at) == ';' ? at + 1 : -1 - at;
                }
            }
            text.clear();
            if (at < 0) {
                return at;
            }
            for (int i = 0; i < count; i++) {
                rules[said[0][i]][said[1][i]] = said[2][i];
            }
            return count;
        }

        // The place behind a statement; of a fault - 1 less its place. So in all that follows of a text.
        private int statement(int count, int from) {
            int kind = kindOf(text.at(from));
            if (kind == NONE) {
                return -1 - from;
            }
            if (text.at(from + 1) != SPACE) {
                return -2 - from;
            }
            int behind = word(count, from + 2);
            if (behind < 0) {
                return behind;
            }
            if (text.at(behind) != SPACE) {
                return -1 - behind;
            }
            said[0][count] = kind;
            return number(count, behind + 1);
        }

        private int word(int count, int from) {
            int longest = 0;
            for (int word = 0; word < WORDS; word++) {
                String name = nameOf(word);
                int same = 0;
                while (same < name.length() && text.at(from + same) == name.charAt(same)) {
                    same++;
                }
                if (same == name.length()) {
                    said[1][count] = word;
                    return from + same;
                }
                longest = Math.max(longest, same);
            }
            return -1 - from - longest;
        }

        private int number(int count, int from) {
            int behind = text.behindDigits(from, 4);
            said[2][count] = text.number(from, behind);
            return said[2][count] == 0 ? -1 - from : behind;
        }

        private static int kindOf(int sign) {
            switch (sign) {
                case 'n': return 0;
                case 's': return 1;
                case 'b': return 2;
                case 'd': return 3;
                default: return NONE;
            }
        }

        private static String nameOf(int word) {
            switch (word) {
                case SIZE: return "size";
                case FORCE: return "force";
                case EDGE: return "edge";
                case END: return "end";
                case SIDE: return "side";
                case ROW: return "row";
                default: return "thin";
            }
        }

        private int rule(int kind, int what) {
            needThing(isKind(kind) && within(what, 0, WORDS - 1));
            return rules[kind][what];
        }

        private int set(int what, int percent) {
            needThing(within(what, 0, 1));
            needNumber(within(percent, what == 0 ? 1 : 0, 100));
            if (what == 0) {
                wet = percent;
            } else {
                less = percent;
            }
            return 0;
        }

        private long holds(int kind, int a, int b, int angle, int part) {
            needThing(isKind(kind) && within(part, 0, 1));
            needNumber(within(a, 1, 1000) && within(b, 1, 1000) && within(angle, 0, 90));
            long least = formula(kind, a, b, 0);
            int which = 0;
            for (int i = 1; i < 4; i++) {
                if (formula(kind, a, b, i) < least) {
                    least = formula(kind, a, b, i);
                    which = i;
                }
            }
            return part == 1 ? which : least * (200 - angle) / 200 * wet / 100;
        }

        private long formula(int kind, int a, int b, int i) {
            long size = rules[kind][SIZE];
            long force = rules[kind][FORCE];
            switch (i) {
                case 0: return force * a * size;
                case 1: return force * b * size;
                case 2: return force * (a + b) * size / 2;
                default: return force * size * size * 4;
            }
        }

        private long togetherOf(int n, int one) {
            needNumber(within(n, 0, 1000) && isLoad(one));
            return together(n, one);
        }

        private long together(int n, long one) {
            return n * one * Math.max(50, 100 - less * (n - 1)) / 100;
        }

        private int count(int load, int one) {
            needNumber(isLoad(load) && isLoad(one));
            for (int n = 1; n <= 100; n++) {
                if (together(n, one) >= load) {
                    return n;
                }
            }
            return NONE;
        }

        private static boolean isLoad(long v) {
            return v >= 0 && v <= LOAD;
        }

        private int pattern(int kind, int w, int h, int n) {
            needThing(isKind(kind));
            needNumber(within(w, 1, PLATE) && within(h, 1, PLATE) && within(n, 1, PATTERN_ROOM));
            long e = space(kind, END);
            long f = space(kind, SIDE);
            long u = space(kind, EDGE);
            long v = space(kind, ROW);
            long columns = w < 2 * e ? 0 : down(w - 2 * e, f) + 1;
            long rows = h < 2 * u ? 0 : down(h - 2 * u, v) + 1;
            if (columns < 1 || columns * rows < n) {
                return 0;
            }
            for (int k = 0; k < n; k++) {
                pattern[0][k] = (int) (e + k % columns * f);
                pattern[1][k] = (int) (u + k / columns * v);
            }
            patternCount = n;
            return 1;
        }

        private int at(int k, int axis) {
            needState(patternCount > 0);
            needThing(within(k, 0, patternCount - 1) && within(axis, 0, 1));
            return pattern[axis][k];
        }

        private int place(int x, int y) {
            needNumber(within(x, 0, PLATE) && within(y, 0, PLATE));
            needState(placeCount < PLACES);
            places[0][placeCount] = x;
            places[1][placeCount] = y;
            placeCount++;
            return placeCount;
        }

        private int clear() {
            placeCount = 0;
            return 0;
        }

        private int keeps(int kind, int w, int h) {
            needThing(isKind(kind));
            needNumber(within(w, 1, PLATE) && within(h, 1, PLATE));
            for (int k = 0; k < placeCount; k++) {
                if (!inside(places[0][k], w, space(kind, END)) || !inside(places[1][k], h, space(kind, EDGE))) {
                    return 1 + k;
                }
            }
            long side = space(kind, SIDE);
            for (int a = 0; a < placeCount; a++) {
                for (int b = a + 1; b < placeCount; b++) {
                    long x = places[0][a] - places[0][b];
                    long y = places[1][a] - places[1][b];
                    if (x * x + y * y < side * side) {
                        return 100 + 32 * a + b;
                    }
                }
            }
            return 0;
        }

        private static boolean inside(int place, int size, long space) {
            return place >= space && size - place >= space;
        }

        private int member(int x0, int y0, int x1, int y1, int wide) {
            needNumber(isNear(x0) && isNear(y0) && isNear(x1) && isNear(y1));
            needNumber((x0 != x1 || y0 != y1) && within(wide, 1, FAR));
            needState(memberCount < MEMBERS);
            members[0][memberCount] = x0;
            members[1][memberCount] = y0;
            members[2][memberCount] = x1 - x0;
            members[3][memberCount] = y1 - y0;
            members[4][memberCount] = wide;
            memberCount++;
            return memberCount - 1;
        }

        private int in(int member, int x, int y) {
            needThing(within(member, 0, memberCount - 1));
            needNumber(isNear(x) && isNear(y));
            return truth(isIn(member, x, y));
        }

        private int teeth(int member, int x, int y, int w, int h, int step) {
            needThing(within(member, 0, memberCount - 1));
            needNumber(isNear(x) && isNear(y));
            needNumber(within(w, 0, 1000) && within(h, 0, 1000) && within(step, 10, 1000));
            int count = 0;
            for (int i = 0; i <= w; i += step) {
                for (int j = 0; j <= h; j += step) {
                    count += truth(isIn(member, x + i, y + j));
                }
            }
            return count;
        }

        // Squares on both sides of 2 * distance <= WIDE keep it whole.
        private boolean isIn(int member, int x, int y) {
            long dx = members[2][member];
            long dy = members[3][member];
            long px = x - members[0][member];
            long py = y - members[1][member];
            long wide = members[4][member];
            long along = dx * px + dy * py;
            long across = dx * py - dy * px;
            long square = dx * dx + dy * dy;
            return along >= 0 && along <= square && 4 * across * across <= wide * wide * square;
        }

        private int thick(int kind, int thick) {
            needThing(isKind(kind));
            needNumber(thick >= 0);
            return truth(thick >= space(kind, THIN));
        }

        private int hole(int kind) {
            needThing(isKind(kind));
            int size = rules[kind][SIZE];
            switch (kind) {
                case 0: return size > 50 ? size * 7 / 10 : 0;
                case 1: return size * 7 / 10;
                case 2: return size + 10;
                default: return size;
            }
        }

        private static boolean isKind(int kind) {
            return within(kind, 0, KINDS - 1);
        }

        private static boolean isNear(int v) {
            return within(v, -FAR, FAR);
        }

        private long space(int kind, int word) {
            return (long) rules[kind][word] * rules[kind][SIZE];
        }
    }

    /** SHEETS: trees of full cuts. A key is the VALUE less a share for each CUT: more VALUE first, then fewer CUTS. */
    private static final class Sheets {
        private static final int SHEETS = 4;
        private static final int KINDS = 8;
        private static final int MOST_SIDE = 16;
        private static final int STRIDE = MOST_SIDE + 1;
        private static final int STAGES = 4;
        private static final int CUTS = 20;
        private static final int CELLS = MOST_SIDE * MOST_SIDE;
        private static final int NODES = 2 * CELLS;
        private static final int SHARE = 1024;
        private static final int WASTE = 0;
        private static final int FIRST_CUT = 16;
        private static final int SHEET = 0;
        private static final int TAKEN = 1;
        private static final int AREA = 2;
        private static final int CUT = 3;
        private static final int WAY = 4;
        private static final int MINUTES = 5;
        private static final int RESTS = 6;
        private static final int ALIKE = 7;

        private int kerf;
        private int stages;
        private int least;
        private final int[][] sheets = new int[4][SHEETS];
        private int sheetCount;
        private final int[][] parts = new int[4][KINDS];
        private int partCount;
        private boolean fresh;
        private int cutCount;
        private final int[][] results = new int[8][CUTS];
        private final int[][] taken = new int[5][CUTS * CELLS];
        private final int[][] rests = new int[4][CUTS * CELLS];
        private final int[] codes = new int[CUTS * NODES];
        private final int[] codeLengths = new int[CUTS];
        private final int[] keys = new int[STAGES * 2 * STRIDE * STRIDE];
        private final int[] choices = new int[STAGES * 2 * STRIDE * STRIDE];
        private int solvedFor;
        private final int[] left = new int[KINDS];
        private final int[] open = new int[KINDS];

        Sheets() {
            anew(0, 3, 2);
        }

        void anew(int toKerf, int toStages, int toLeast) {
            kerf = nearest(toKerf, 0, 3);
            stages = nearest(toStages, 1, 3);
            least = nearest(toLeast, 1, MOST_SIDE);
            sheetCount = 0;
            partCount = 0;
            fresh = false;
            cutCount = 0;
            solvedFor = NONE;
        }

        long call(int n, int a, int b, int c, int d) {
            switch (n) {
                case 1: return sheet(a, b, c, d);
                case 2: return part(a, b, c, d != 0);
                case 3: return count(a, b);
                case 4: return worth(a, b, c, d);
                case 5: return run();
                case 6: return cut(a, b);
                case 7: return takenAt(a, b, c);
                case 8: return rest(a, b, c);
                case 9: return left(a);
                case 10: return all(a);
                case 11: return bound();
                default: return NO_CALL;
            }
        }

        private static boolean isSide(int v) {
            return within(v, 1, MOST_SIDE);
        }

        private int sheet(int width, int height, int cents, int stock) {
            needNumber(isSide(width) && isSide(height) && within(cents, 1, 10000) && within(stock, 0, 20));
            needState(sheetCount < SHEETS);
            sheets[0][sheetCount] = width;
            sheets[1][sheetCount] = height;
            sheets[2][sheetCount] = cents;
            sheets[3][sheetCount] = stock;
            fresh = false;
            sheetCount++;
            return sheetCount - 1;
        }

        private int part(int width, int height, int count, boolean turns) {
            needNumber(isSide(width) && isSide(height) && within(count, 0, 50));
            needState(partCount < KINDS);
            parts[0][partCount] = width;
            parts[1][partCount] = height;
            parts[2][partCount] = count;
            parts[3][partCount] = truth(turns);
            fresh = false;
            solvedFor = NONE;
            partCount++;
            return partCount - 1;
        }

        private int count(int part, int count) {
            needThing(within(part, 0, partCount - 1));
            needNumber(within(count, 0, 50));
            int before = parts[2][part];
            parts[2][part] = count;
            fresh = false;
            return before;
        }

        private int worth(int width, int height, int way, int ofStages) {
            needNumber(isSide(width) && isSide(height) && within(way, 0, 1) && within(ofStages, 0, 3));
            solve(wanted(parts[2]));
            return (int) up(keys[index(ofStages, way, width, height)], SHARE);
        }

        private int run() {
            int[] stock = sheets[3];
            for (int part = 0; part < partCount; part++) {
                left[part] = parts[2][part];
            }
            cutCount = 0;
            boolean more = true;
            while (more && cutCount < CUTS) {
                solve(wanted(left));
                int best = NONE;
                int bestArea = 0;
                for (int sheet = 0; sheet < sheetCount; sheet++) {
                    int area = cutTimes(sheet) < stock[sheet] ? lay(sheet) : 0;
                    if (area > 0 && (best == NONE || area * sheets[2][best] > bestArea * sheets[2][sheet])) {
                        best = sheet;
                        bestArea = area;
                    }
                }
                more = best != NONE;
                if (more) {
                    lay(best);
                    System.arraycopy(open, 0, left, 0, KINDS);
                    results[ALIKE][cutCount] = firstAlike();
                    cutCount++;
                }
            }
            fresh = true;
            return cutCount;
        }

        private int cut(int sheet, int what) {
            needState(fresh);
            needThing(hasCut(sheet) && within(what, 0, ALIKE));
            return results[what][sheet];
        }

        private int takenAt(int sheet, int k, int what) {
            needState(fresh);
            needThing(hasCut(sheet) && within(k, 0, takenFrom(sheet) - 1) && within(what, 0, 4));
            return taken(sheet, k, what);
        }

        private int rest(int sheet, int k, int what) {
            needState(fresh);
            needThing(hasCut(sheet) && within(k, 0, results[RESTS][sheet] - 1) && within(what, 0, 3));
            return rests[what][sheet * CELLS + k];
        }

        private int left(int part) {
            needState(fresh);
            needThing(within(part, 0, partCount - 1));
            return left[part];
        }

        private long all(int what) {
            needState(fresh);
            needThing(within(what, 0, 2));
            if (what == 0) {
                return allCents();
            }
            int sum = 0;
            for (int k = 0; k < cutCount; k++) {
                int sheet = results[SHEET][k];
                sum += what == 1 ? sheets[0][sheet] * sheets[1][sheet] : results[AREA][k];
            }
            return sum;
        }

        private long bound() {
            int wanted = 0;
            for (int part = 0; part < partCount; part++) {
                wanted += parts[0][part] * parts[1][part] * parts[2][part];
            }
            int largest = 0;
            for (int sheet = 0; sheet < sheetCount; sheet++) {
                largest = Math.max(largest, sheets[0][sheet] * sheets[1][sheet]);
            }
            return up(wanted, largest);
        }

        boolean wasRun() {
            return fresh;
        }

        boolean hasCut(int sheet) {
            return within(sheet, 0, cutCount - 1);
        }

        int takenFrom(int sheet) {
            return hasCut(sheet) ? results[TAKEN][sheet] : 0;
        }

        int taken(int sheet, int k, int what) {
            return within(k, 0, takenFrom(sheet) - 1) && within(what, 0, 4) ? taken[what][sheet * CELLS + k] : NONE;
        }

        int allMinutes() {
            return sum(MINUTES);
        }

        int allTaken() {
            return sum(TAKEN);
        }

        private int sum(int what) {
            int sum = 0;
            for (int k = 0; k < cutCount; k++) {
                sum += results[what][k];
            }
            return sum;
        }

        long allCents() {
            long sum = 0;
            for (int k = 0; k < cutCount; k++) {
                sum += sheets[2][results[SHEET][k]];
            }
            return sum;
        }

        private int wanted(int[] copies) {
            int mask = 0;
            for (int part = 0; part < partCount; part++) {
                mask |= copies[part] > 0 ? 1 << part : 0;
            }
            return mask;
        }

        private int cutTimes(int sheet) {
            int times = 0;
            for (int k = 0; k < cutCount; k++) {
                times += truth(results[SHEET][k] == sheet);
            }
            return times;
        }

        private static int index(int stage, int way, int w, int h) {
            return ((stage * 2 + way) * STRIDE + w) * STRIDE + h;
        }

        private void solve(int wanted) {
            if (solvedFor == wanted) {
                return;
            }
            solvedFor = wanted;
            for (int stage = 0; stage < STAGES; stage++) {
                for (int w = 1; w <= MOST_SIDE; w++) {
                    for (int h = 1; h <= MOST_SIDE; h++) {
                        solvePiece(stage, 0, w, h);
                        solvePiece(stage, 1, w, h);
                    }
                }
            }
        }

        private void solvePiece(int stage, int way, int w, int h) {
            int here = index(stage, way, w, h);
            int part = partOf(w, h);
            keys[here] = part == NONE ? 0 : w * h * SHARE;
            choices[here] = part + 1;
            // A PART is worth its whole piece without a CUT: nothing comes before it.
            int size = part != NONE || stage == 0 ? 0 : way == 0 ? w : h;
            for (int c = 1; c < size; c++) {
                int behind = size - c - kerf;
                int key = way == 0 ? keys[index(stage - 1, 1, c, h)] : keys[index(stage - 1, 0, w, c)];
                if (behind > 0) {
                    key += way == 0 ? keys[index(stage, 0, behind, h)] : keys[index(stage, 1, w, behind)];
                }
                if (key - 1 > keys[here]) {
                    keys[here] = key - 1;
                    choices[here] = FIRST_CUT + c;
                }
            }
        }

        private int partOf(int w, int h) {
            for (int part = 0; part < partCount; part++) {
                boolean asTold = parts[0][part] == w && parts[1][part] == h;
                boolean turned = parts[3][part] == 1 && parts[0][part] == h && parts[1][part] == w;
                if ((solvedFor >> part & 1) == 1 && (asTold || turned)) {
                    return part;
                }
            }
            return NONE;
        }

        // Lays the BEST TREE of a sheet out as the next cut one, which counts only when the caller keeps it.
        private int lay(int sheet) {
            int w = sheets[0][sheet];
            int h = sheets[1][sheet];
            int way = truth(keys[index(stages, 1, w, h)] > keys[index(stages, 0, w, h)]);
            for (int[] row : results) {
                row[cutCount] = 0;
            }
            codeLengths[cutCount] = 0;
            System.arraycopy(left, 0, open, 0, KINDS);
            results[SHEET][cutCount] = sheet;
            results[WAY][cutCount] = way;
            layTree(w, h, way, stages, 0, 0);
            return results[AREA][cutCount];
        }

        // First pieces go one stage down, so they recur; second ones stay on theirs, so they loop.
        private void layTree(int width, int height, int way, int stage, int x0, int y0) {
            int w = width;
            int h = height;
            int x = x0;
            int y = y0;
            for (int i = 0; i < MOST_SIDE && w > 0 && h > 0; i++) {
                int choice = choices[index(stage, way, w, h)];
                note(choice);
                int c = choice - FIRST_CUT;
                if (c < 1 || stage < 1) {
                    layLeaf(choice, x, y, w, h);
                    return;
                }
                results[CUT][cutCount]++;
                results[MINUTES][cutCount] += way == 0 ? h : w;
                layTree(way == 0 ? c : w, way == 0 ? h : c, 1 - way, stage - 1, x, y);
                int gone = c + kerf;
                x += way == 0 ? gone : 0;
                y += way == 0 ? 0 : gone;
                w -= way == 0 ? gone : 0;
                h -= way == 0 ? 0 : gone;
            }
        }

        private void note(int choice) {
            int length = codeLengths[cutCount];
            if (length < NODES) {
                codes[cutCount * NODES + length] = choice;
                codeLengths[cutCount]++;
            }
        }

        private void layLeaf(int choice, int x, int y, int w, int h) {
            if (choice == WASTE && w >= least && h >= least) {
                int at = cutCount * CELLS + results[RESTS][cutCount];
                rests[0][at] = x;
                rests[1][at] = y;
                rests[2][at] = w;
                rests[3][at] = h;
                results[RESTS][cutCount]++;
            }
            int part = choice - 1;
            if (within(part, 0, partCount - 1) && open[part] > 0) {
                int at = cutCount * CELLS + results[TAKEN][cutCount];
                taken[0][at] = part;
                taken[1][at] = x;
                taken[2][at] = y;
                taken[3][at] = w;
                taken[4][at] = h;
                open[part]--;
                results[TAKEN][cutCount]++;
                results[AREA][cutCount] += w * h;
            }
        }

        private int firstAlike() {
            for (int other = 0; other < cutCount; other++) {
                if (isAlike(other)) {
                    return other;
                }
            }
            return cutCount;
        }

        private boolean isAlike(int other) {
            boolean same = results[SHEET][other] == results[SHEET][cutCount]
                && results[WAY][other] == results[WAY][cutCount] && codeLengths[other] == codeLengths[cutCount];
            for (int i = 0; i < codeLengths[cutCount] && same; i++) {
                same = codes[other * NODES + i] == codes[cutCount * NODES + i];
            }
            return same;
        }
    }

    /** ROUTER: a board of heights, and a machine's text that is read and swept over it. */
    private static final class Router {
        private static final int ROOM = 20;
        private static final int CELLS = ROOM * ROOM;
        private static final int TOOLS = 4;
        private static final int STATEMENTS = 32;
        private static final int UPMOST = 100;
        private static final int CRASH = 1;
        private static final int BREACH = 2;
        private static final int CHANGE = 2;
        private static final int Z = 2;
        private static final int TOOL = 3;
        private static final int TIME = 0;
        private static final int ENDED = 1;
        private static final int CUT = 5;

        private int side;
        private final int[] heights = new int[CELLS];
        private final int[] targets = new int[CELLS];
        private final int[] kept = new int[CELLS];
        private final int[][] tools = new int[2][TOOLS];
        private final Text text = new Text(240);
        // Of a statement: 0 or 1 by G, CHANGE by T; X, Y, Z or NONE; in place of X a new tool.
        private final int[][] program = new int[4][STATEMENTS];
        private final int[][] reading = new int[4][STATEMENTS];
        private int statements;
        private boolean ran;
        private final int[] about = new int[6];
        private final int[] machine = new int[4];
        private final int[] marks = new int[CELLS];
        private final int[] waiting = new int[CELLS];

        Router() {
            anew(20);
        }

        void anew(int toSide) {
            side = nearest(toSide, 2, ROOM);
            Arrays.fill(heights, UPMOST);
            Arrays.fill(targets, UPMOST);
            Arrays.fill(kept, 0);
            Arrays.fill(tools[0], 0);
            Arrays.fill(tools[1], 1);
            text.clear();
            statements = 0;
            ran = false;
        }

        long call(int n, int a, int b, int c, int d, int e) {
            switch (n) {
                case 1: return target(a, b, c, d, e);
                case 2: return keep(a, b, c, d, e != 0);
                case 3: return tool(a, b, c);
                case 4: return truth(text.add(a));
                case 5: return read();
                case 6: return run();
                case 7: return about(a);
                case 8: return cell(a, b, c);
                case 9: return check(a);
                case 10: return reached(a);
                case 11: return pieces();
                case 12: return blank();
                default: return NO_CALL;
            }
        }

        private int target(int x0, int y0, int x1, int y1, int height) {
            needThing(onGrid(x0, y0) && onGrid(x1, y1));
            needNumber(x1 >= x0 && y1 >= y0 && within(height, 0, UPMOST));
            fillBox(targets, x0, y0, x1, y1, height);
            return 0;
        }

        private int keep(int x0, int y0, int x1, int y1, boolean on) {
            needThing(onGrid(x0, y0) && onGrid(x1, y1));
            needNumber(x1 >= x0 && y1 >= y0);
            fillBox(kept, x0, y0, x1, y1, truth(on));
            return 0;
        }

        private static void fillBox(int[] cells, int x0, int y0, int x1, int y1, int v) {
            for (int y = y0; y <= y1; y++) {
                for (int x = x0; x <= x1; x++) {
                    cells[y * ROOM + x] = v;
                }
            }
        }

        private int tool(int tool, int radius, int feed) {
            needThing(within(tool, 0, TOOLS - 1));
            needNumber(within(radius, 0, 6) && within(feed, 1, 10));
            tools[0][tool] = radius;
            tools[1][tool] = feed;
            return 0;
        }

        private int read() {
            int count = 0;
            int at = 0;
            while (count < STATEMENTS && at >= 0 && (count == 0 || at < text.length())) {
                at = statement(count, text.behindSpaces(at));
                count++;
            }
            if (at >= 0 && at < text.length()) {
                at = -1 - at;
            }
            text.clear();
            if (at < 0) {
                return at;
            }
            statements = count;
            for (int i = 0; i < reading.length; i++) {
                System.arraycopy(reading[i], 0, program[i], 0, STATEMENTS);
            }
            return count;
        }

        // The place behind a statement; of a fault - 1 less its place. So in all that follows of a text.
        private int statement(int n, int from) {
            int letter = text.at(from);
            if (letter != 'T' && letter != 'G') {
                return -1 - from;
            }
            int digit = text.at(from + 1) - '0';
            if (!within(digit, 0, letter == 'T' ? TOOLS - 1 : 1)) {
                return -2 - from;
            }
            for (int i = 0; i < reading.length; i++) {
                reading[i][n] = NONE;
            }
            reading[0][n] = letter == 'T' ? CHANGE : digit;
            if (letter == 'T') {
                reading[1][n] = digit;
                return close(from + 2);
            }
            return goal(n, from + 2);
        }

        private int goal(int n, int from) {
            int at = from;
            for (int axis = 0; axis <= Z; axis++) {
                int letter = text.behindSpaces(at);
                if (text.at(letter) == 'X' + axis) {
                    at = number(n, axis, letter + 1);
                    if (at < 0) {
                        return at;
                    }
                }
            }
            return at == from ? -1 - text.behindSpaces(at) : close(at);
        }

        private int number(int n, int axis, int from) {
            int behind = text.behindDigits(from, 3);
            int v = text.number(from, behind);
            if (behind == from || v > (axis == Z ? UPMOST : side - 1)) {
                return -1 - from;
            }
            reading[1 + axis][n] = v;
            return behind;
        }

        private int close(int from) {
            int at = text.behindSpaces(from);
            return text.at(at) == ';' ? at + 1 : -1 - at;
        }

        private int run() {
            needState(statements > 0);
            Arrays.fill(about, 0);
            Arrays.fill(machine, 0);
            machine[Z] = UPMOST;
            int end = 0;
            int n = 0;
            while (n < statements && end == 0) {
                if (program[0][n] == CHANGE) {
                    machine[TOOL] = program[1][n];
                    about[TIME] += 10;
                } else {
                    end = go(n);
                }
                n += truth(end == 0);
            }
            about[ENDED] = n;
            for (int axis = 0; axis <= Z; axis++) {
                about[2 + axis] = machine[axis];
            }
            ran = true;
            return end;
        }

        private int go(int n) {
            int x = machine[0];
            int y = machine[1];
            int z = machine[Z];
            int dx = way(n, 0);
            int dy = way(n, 1);
            int dz = way(n, Z);
            int steps = Math.max(Math.abs(dx), Math.max(Math.abs(dy), Math.abs(dz)));
            for (int i = 1; i <= steps; i++) {
                machine[0] = x + part(dx, i, steps);
                machine[1] = y + part(dy, i, steps);
                machine[Z] = z + part(dz, i, steps);
                int end = program[0][n] == 0 ? crashes() : breaches();
                if (end != 0) {
                    return end;
                }
                if (program[0][n] == 1) {
                    cutDisc();
                }
                about[TIME] += program[0][n] == 0 ? 1 : tools[1][machine[TOOL]];
            }
            return 0;
        }

        private int way(int n, int axis) {
            return program[1 + axis][n] == NONE ? 0 : program[1 + axis][n] - machine[axis];
        }

        private static int part(int d, int i, int n) {
            return (int) down(2 * d * i + n, 2 * n);
        }

        private int crashes() {
            return highest(heights, machine[0], machine[1], machine[TOOL]) > machine[Z] ? CRASH : 0;
        }

        private int breaches() {
            int r = tools[0][machine[TOOL]];
            for (int y = low(machine[1], r); y <= high(machine[1], r); y++) {
                for (int x = low(machine[0], r); x <= high(machine[0], r); x++) {
                    int at = y * ROOM + x;
                    if (inDisc(x - machine[0], y - machine[1], r) && heights[at] > machine[Z] && kept[at] == 1) {
                        return BREACH;
                    }
                }
            }
            return 0;
        }

        private void cutDisc() {
            int r = tools[0][machine[TOOL]];
            for (int y = low(machine[1], r); y <= high(machine[1], r); y++) {
                for (int x = low(machine[0], r); x <= high(machine[0], r); x++) {
                    int at = y * ROOM + x;
                    if (inDisc(x - machine[0], y - machine[1], r) && heights[at] > machine[Z]) {
                        heights[at] = machine[Z];
                        about[CUT]++;
                    }
                }
            }
        }

        private int highest(int[] cells, int x0, int y0, int tool) {
            int r = tools[0][tool];
            int highest = 0;
            for (int y = low(y0, r); y <= high(y0, r); y++) {
                for (int x = low(x0, r); x <= high(x0, r); x++) {
                    if (inDisc(x - x0, y - y0, r)) {
                        highest = Math.max(highest, cells[y * ROOM + x]);
                    }
                }
            }
            return highest;
        }

        private int low(int place, int r) {
            return Math.max(0, place - r);
        }

        private int high(int place, int r) {
            return Math.min(side - 1, place + r);
        }

        private static boolean inDisc(int dx, int dy, int r) {
            return dx * dx + dy * dy <= r * r;
        }

        private int about(int what) {
            needThing(within(what, 0, CUT));
            needState(ran);
            return about[what];
        }

        private int cell(int x, int y, int what) {
            needThing(onGrid(x, y) && within(what, 0, 2));
            int at = y * ROOM + x;
            return what == 0 ? heights[at] : what == 1 ? targets[at] : kept[at];
        }

        private int check(int what) {
            needThing(within(what, 0, 3));
            int count = 0;
            int first = NONE;
            for (int y = 0; y < side; y++) {
                for (int x = 0; x < side; x++) {
                    int over = heights[y * ROOM + x] - targets[y * ROOM + x];
                    if (what % 2 == 0 ? over > 0 : over < 0) {
                        count++;
                        first = first == NONE ? side * y + x : first;
                    }
                }
            }
            return what < 2 ? count : first;
        }

        // A disc is as far to all sides: the centres that reach a cell are the cells of its own disc.
        private int reached(int tool) {
            needThing(within(tool, 0, TOOLS - 1));
            for (int y = 0; y < side; y++) {
                for (int x = 0; x < side; x++) {
                    boolean barred = highest(kept, x, y, tool) > 0;
                    marks[y * ROOM + x] = barred ? UPMOST + 1 : highest(targets, x, y, tool);
                }
            }
            int count = 0;
            for (int y = 0; y < side; y++) {
                for (int x = 0; x < side; x++) {
                    int at = y * ROOM + x;
                    count += truth(heights[at] > targets[at] && lowestMark(x, y, tool) <= targets[at]);
                }
            }
            return count;
        }

        private int lowestMark(int x0, int y0, int tool) {
            int r = tools[0][tool];
            int lowest = UPMOST + 1;
            for (int y = low(y0, r); y <= high(y0, r); y++) {
                for (int x = low(x0, r); x <= high(x0, r); x++) {
                    if (inDisc(x - x0, y - y0, r)) {
                        lowest = Math.min(lowest, marks[y * ROOM + x]);
                    }
                }
            }
            return lowest;
        }

        private int pieces() {
            Arrays.fill(marks, 0);
            int count = 0;
            for (int y = 0; y < side; y++) {
                for (int x = 0; x < side; x++) {
                    if (isLoose(x, y)) {
                        count++;
                        markPiece(x, y);
                    }
                }
            }
            return count;
        }

        private boolean isLoose(int x, int y) {
            return onGrid(x, y) && heights[y * ROOM + x] > 0 && marks[y * ROOM + x] == 0;
        }

        private void markPiece(int x0, int y0) {
            int count = mark(x0, y0, 0);
            for (int next = 0; next < count && next < CELLS; next++) {
                int x = waiting[next] % ROOM;
                int y = waiting[next] / ROOM;
                count = mark(x + 1, y, count);
                count = mark(x - 1, y, count);
                count = mark(x, y + 1, count);
                count = mark(x, y - 1, count);
            }
        }

        private int mark(int x, int y, int count) {
            if (!isLoose(x, y) || count >= CELLS) {
                return count;
            }
            marks[y * ROOM + x] = 1;
            waiting[count] = y * ROOM + x;
            return count + 1;
        }

        private int blank() {
            Arrays.fill(heights, UPMOST);
            return 0;
        }

        int side() {
            return side;
        }

        boolean writePart(int x, int y, int last, int depth) {
            text.addAll("G0X");
            text.addNumber(x);
            text.addAll("Y");
            text.addNumber(y);
            text.addAll(";G1Z");
            text.addNumber(depth);
            text.addAll(";G1X");
            text.addNumber(last);
            return text.addAll(";G0Z100;");
        }

        private boolean onGrid(int x, int y) {
            return within(x, 0, side - 1) && within(y, 0, side - 1);
        }
    }

    /** PLANS: jobs through machines. What is being placed lies in BEGIN and ON, the PLAN in the two behind. */
    private static final class Plans {
        private static final int MACHINES = 6;
        private static final int SPANS = 8;
        private static final int JOBS = 6;
        private static final int JOB_STEPS = 4;
        private static final int STEPS = JOBS * JOB_STEPS;
        private static final int DUE = 0;
        private static final int WEIGHT = 1;
        private static final int SIZE = 2;
        private static final int KIND = 0;
        private static final int HOURS = 1;
        private static final int WAIT = 2;
        private static final int BEGIN = 0;
        private static final int ON = 1;
        private static final int PLAN_BEGIN = 2;
        private static final int PLAN_ON = 3;
        private static final int PLAN = 0;
        private static final int TRIED = 1;
        private static final int BEST = 2;
        private static final int COST = 0;
        private static final int BOUND = 1;
        private static final int NODES = 2;
        private static final int CHANGED = 3;
        // All steps one behind the other, with their waits, end before this, also behind all spans.
        private static final int NEVER = 100000;

        private final int[] kinds = new int[MACHINES];
        private int machineCount;
        private final int[][] outs = new int[2][MACHINES * SPANS];
        private final int[] outCounts = new int[MACHINES];
        private final int[][] jobs = new int[3][JOBS];
        private int jobCount;
        private final int[][] jobSteps = new int[JOBS][JOB_STEPS];
        private final int[][] steps = new int[3][STEPS];
        private int stepCount;
        private final int[][] places = new int[4][STEPS];
        private int planSteps;
        private int planJobs;
        private boolean told;
        private final int[][] orders = new int[3][JOBS];
        private final int[] about = new int[4];
        private final int[] alone = new int[JOBS];
        private long x;
        private int bestCost;
        private int nodesLeft;

        Plans() {
            anew(1);
        }

        void anew(int seed) {
            machineCount = 0;
            jobCount = 0;
            stepCount = 0;
            planSteps = 0;
            planJobs = 0;
            told = false;
            x = seed;
        }

        long call(int n, int a, int b, int c, int d) {
            switch (n) {
                case 1: return machine(a);
                case 2: return out(a, b, c);
                case 3: return job(a, b);
                case 4: return due(a, b);
                case 5: return step(a, b, c, d);
                case 6: return run(a);
                case 7: return improve(a);
                case 8: return at(a, b);
                case 9: return order(a);
                case 10: return about(a);
                case 11: return aloneOf(a);
                case 12: return promise(a);
                case 13: return clash(a);
                case 14: return check();
                default: return NO_CALL;
            }
        }

        private int machine(int kind) {
            needNumber(within(kind, 0, 3));
            needState(machineCount < MACHINES);
            kinds[machineCount] = kind;
            outCounts[machineCount] = 0;
            told = true;
            machineCount++;
            return machineCount - 1;
        }

        private int out(int machine, int from, int to) {
            needThing(within(machine, 0, machineCount - 1));
            needNumber(within(from, 0, 1000) && within(to, from + 1, 2000));
            needState(outCounts[machine] < SPANS);
            outs[0][machine * SPANS + outCounts[machine]] = from;
            outs[1][machine * SPANS + outCounts[machine]] = to;
            told = true;
            outCounts[machine]++;
            return outCounts[machine];
        }

        private int job(int due, int weight) {
            needNumber(within(due, 0, 10000) && within(weight, 0, 100));
            needState(jobCount < JOBS);
            jobs[DUE][jobCount] = due;
            jobs[WEIGHT][jobCount] = weight;
            jobs[SIZE][jobCount] = 0;
            told = true;
            jobCount++;
            return jobCount - 1;
        }

        private int due(int job, int due) {
            needThing(isJob(job));
            needNumber(within(due, 0, 10000));
            jobs[DUE][job] = due;
            told = true;
            return 0;
        }

        private int stepFault(int job, int kind, int hours, int wait) {
            if (!isJob(job)) {
                return 1;
            }
            if (!within(kind, 0, 3) || !within(hours, 1, 100) || !within(wait, 0, 100)) {
                return 2;
            }
            return jobs[SIZE][job] < JOB_STEPS ? 0 : 3;
        }

        int addStep(int job, int kind, int hours, int wait) {
            if (stepFault(job, kind, hours, wait) != 0 || stepCount >= STEPS) {
                return NONE;
            }
            steps[KIND][stepCount] = kind;
            steps[HOURS][stepCount] = hours;
            steps[WAIT][stepCount] = wait;
            jobSteps[job][jobs[SIZE][job]] = stepCount;
            jobs[SIZE][job]++;
            told = true;
            stepCount++;
            return stepCount - 1;
        }

        private int step(int job, int kind, int hours, int wait) {
            refuse(stepFault(job, kind, hours, wait));
            return addStep(job, kind, hours, wait);
        }

        private int run(int nodes) {
            needNumber(within(nodes, 1, 2000));
            needState(jobCount > 0 && allFit());
            int rest = 0;
            for (int job = 0; job < jobCount; job++) {
                alone[job] = costAlone(job);
                rest += alone[job];
            }
            orderByDue();
            bestCost = placeOrder(BEST, jobCount);
            nodesLeft = nodes;
            clearPlaces();
            int open = tryFrom(0, 0, 0, rest) ? 0 : 1;
            about[BOUND] = rest;
            about[NODES] = nodes - nodesLeft;
            planJobs = jobCount;
            about[COST] = placeOrder(BEST, planJobs);
            keepPlaced(BEST);
            return open;
        }

        private int improve(int n) {
            needNumber(within(n, 0, 100));
            needState(planned() && !told);
            System.arraycopy(orders[PLAN], 0, orders[TRIED], 0, JOBS);
            int cost = about[COST];
            int less = 0;
            for (int i = 0; i < n; i++) {
                int a = draw();
                int b = draw();
                swap(a, b);
                int other = placeOrder(TRIED, planJobs);
                if (other < cost) {
                    cost = other;
                    less++;
                } else {
                    swap(a, b);
                }
            }
            about[COST] = placeOrder(TRIED, planJobs);
            keepPlaced(TRIED);
            return less;
        }

        private int draw() {
            x = x * 6364136223846793005L + 1442695040888963407L;
            return planJobs < 1 ? 0 : (int) ((x >>> 33) % planJobs);
        }

        private void swap(int a, int b) {
            int held = orders[TRIED][a];
            orders[TRIED][a] = orders[TRIED][b];
            orders[TRIED][b] = held;
        }

        private int at(int step, int what) {
            needThing(within(step, 0, stepCount - 1) && within(what, 0, 1));
            needState(planned());
            return step < planSteps ? places[PLAN_BEGIN + what][step] : NONE;
        }

        private int order(int k) {
            needState(planned());
            needThing(within(k, 0, planJobs - 1));
            return orders[PLAN][k];
        }

        private int about(int what) {
            needThing(within(what, 0, 3));
            needState(planned());
            return about[what];
        }

        private int aloneOf(int job) {
            needThing(isJob(job));
            needState(fits(job));
            return costAlone(job);
        }

        private int promise(int job) {
            needThing(isJob(job));
            needState(planned() && !told);
            for (int step = 0; step < stepCount; step++) {
                places[BEGIN][step] = places[PLAN_BEGIN][step];
                places[ON][step] = places[PLAN_ON][step];
            }
            takeOut(job);
            return place(job);
        }

        private int clash(int k) {
            needNumber(k >= 0);
            needState(allFit());
            int count = 0;
            for (int one = 0; one < jobCount; one++) {
                for (int other = one + 1; other < jobCount; other++) {
                    boolean mayBoth = costAlone(one) == 0 && costAlone(other) == 0;
                    if (mayBoth && costOfTwo(one, other) > 0 && costOfTwo(other, one) > 0) {
                        if (count == k) {
                            return 8 * one + other;
                        }
                        count++;
                    }
                }
            }
            return NONE;
        }

        private int costOfTwo(int first, int second) {
            clearPlaces();
            int cost = costOf(first, place(first));
            return cost + costOf(second, place(second));
        }

        private int check() {
            needState(planned());
            for (int rule = 1; rule <= 4; rule++) {
                for (int step = 0; step < stepCount; step++) {
                    if (breaks(rule, step)) {
                        return 100 * rule + step;
                    }
                }
            }
            for (int job = 0; job < jobCount; job++) {
                int size = jobs[SIZE][job];
                if (size > 0 && planEnd(jobSteps[job][size - 1]) > jobs[DUE][job]) {
                    return 500 + job;
                }
            }
            return 0;
        }

        private boolean breaks(int rule, int step) {
            switch (rule) {
                case 1: return step >= planSteps;
                case 2: return beginsTooEarly(step);
                case 3: return sharesWithLesser(step);
                default: return sharesWithOut(step);
            }
        }

        private boolean beginsTooEarly(int step) {
            int before = NONE;
            for (int job = 0; job < jobCount; job++) {
                for (int i = 1; i < jobs[SIZE][job]; i++) {
                    before = jobSteps[job][i] == step ? jobSteps[job][i - 1] : before;
                }
            }
            return before != NONE && places[PLAN_BEGIN][step] < planEnd(before) + steps[WAIT][before];
        }

        private boolean sharesWithLesser(int step) {
            int begin = places[PLAN_BEGIN][step];
            for (int other = 0; other < step; other++) {
                if (places[PLAN_ON][other] == places[PLAN_ON][step]
                    && begin < planEnd(other) && places[PLAN_BEGIN][other] < planEnd(step)) {
                    return true;
                }
            }
            return false;
        }

        private boolean sharesWithOut(int step) {
            int begin = places[PLAN_BEGIN][step];
            return behindOuts(places[PLAN_ON][step], begin, planEnd(step)) > begin;
        }

        private int planEnd(int step) {
            return places[PLAN_BEGIN][step] + steps[HOURS][step];
        }

        boolean planned() {
            return planJobs > 0;
        }

        int cost() {
            return about[COST];
        }

        private boolean isJob(int job) {
            return within(job, 0, jobCount - 1);
        }

        private boolean hasMachine(int kind) {
            for (int machine = 0; machine < machineCount; machine++) {
                if (kinds[machine] == kind) {
                    return true;
                }
            }
            return false;
        }

        private boolean fits(int job) {
            for (int i = 0; i < jobs[SIZE][job]; i++) {
                if (!hasMachine(steps[KIND][jobSteps[job][i]])) {
                    return false;
                }
            }
            return true;
        }

        private boolean allFit() {
            for (int job = 0; job < jobCount; job++) {
                if (!fits(job)) {
                    return false;
                }
            }
            return true;
        }

        private void clearPlaces() {
            Arrays.fill(places[ON], NONE);
        }

        private void takeOut(int job) {
            for (int i = 0; i < jobs[SIZE][job]; i++) {
                places[ON][jobSteps[job][i]] = NONE;
            }
        }

        // The END of a job, whose steps are placed among all that are placed.
        private int place(int job) {
            int ready = 0;
            int end = 0;
            for (int i = 0; i < jobs[SIZE][job]; i++) {
                int step = jobSteps[job][i];
                placeStep(step, ready);
                end = places[BEGIN][step] + steps[HOURS][step];
                ready = end + steps[WAIT][step];
            }
            return end;
        }

        private void placeStep(int step, int ready) {
            int best = NEVER;
            int on = NONE;
            for (int machine = 0; machine < machineCount; machine++) {
                if (kinds[machine] == steps[KIND][step]) {
                    int begin = firstFree(machine, ready, steps[HOURS][step]);
                    if (begin < best) {
                        best = begin;
                        on = machine;
                    }
                }
            }
            places[BEGIN][step] = best;
            places[ON][step] = on;
        }

        // Each time the begin moves it passes one step or span for good: there are no more moves than these.
        private int firstFree(int machine, int ready, int hours) {
            int begin = ready;
            for (int i = 0; i <= STEPS + SPANS; i++) {
                int later = behindOuts(machine, begin, begin + hours);
                for (int step = 0; step < stepCount && later == begin; step++) {
                    int end = places[BEGIN][step] + steps[HOURS][step];
                    if (places[ON][step] == machine && begin < end && places[BEGIN][step] < begin + hours) {
                        later = end;
                    }
                }
                if (later == begin) {
                    return begin;
                }
                begin = later;
            }
            return begin;
        }

        // Where an OUT span ends that shares an hour with begin .. end; begin itself if none does.
        private int behindOuts(int machine, int begin, int end) {
            if (machine < 0 || machine >= machineCount) {
                return begin;
            }
            for (int i = machine * SPANS; i < machine * SPANS + outCounts[machine]; i++) {
                if (begin < outs[1][i] && outs[0][i] < end) {
                    return outs[1][i];
                }
            }
            return begin;
        }

        private int costOf(int job, int end) {
            return jobs[WEIGHT][job] * Math.max(0, end - jobs[DUE][job]);
        }

        private int costAlone(int job) {
            clearPlaces();
            return costOf(job, place(job));
        }

        private int placeOrder(int which, int count) {
            clearPlaces();
            int cost = 0;
            for (int i = 0; i < count; i++) {
                int job = orders[which][i];
                cost += costOf(job, place(job));
            }
            return cost;
        }

        private void orderByDue() {
            for (int job = 0; job < jobCount; job++) {
                int i = job;
                while (i > 0 && jobs[DUE][orders[BEST][i - 1]] > jobs[DUE][job]) {
                    orders[BEST][i] = orders[BEST][i - 1];
                    i--;
                }
                orders[BEST][i] = job;
            }
        }

        // False as soon as a NODE would be one more than told.
        private boolean tryFrom(int depth, int used, int cost, int rest) {
            for (int job = 0; job < jobCount && depth < JOBS; job++) {
                if ((used >> job & 1) == 0) {
                    if (nodesLeft < 1) {
                        return false;
                    }
                    nodesLeft--;
                    orders[TRIED][depth] = job;
                    int costHere = cost + costOf(job, place(job));
                    int restHere = rest - alone[job];
                    if (costHere + restHere < bestCost) {
                        if (depth + 1 == jobCount) {
                            bestCost = costHere;
                            System.arraycopy(orders[TRIED], 0, orders[BEST], 0, JOBS);
                        } else if (!tryFrom(depth + 1, used | 1 << job, costHere, restHere)) {
                            return false;
                        }
                    }
                    takeOut(job);
                }
            }
            return true;
        }

        // What has just been placed is the PLAN.
        private void keepPlaced(int which) {
            about[CHANGED] = 0;
            for (int step = 0; step < stepCount; step++) {
                boolean same = step < planSteps && places[BEGIN][step] == places[PLAN_BEGIN][step]
                    && places[ON][step] == places[PLAN_ON][step];
                about[CHANGED] += truth(!same);
                places[PLAN_BEGIN][step] = places[BEGIN][step];
                places[PLAN_ON][step] = places[ON][step];
            }
            System.arraycopy(orders[which], 0, orders[PLAN], 0, JOBS);
            planSteps = stepCount;
            told = false;
        }
    }

    /** PRICES: lines of signs reckoned in exact fractions, offers, invoices, currencies, minutes learned. */
    private static final class Prices {
        private static final int LINES = 16;
        private static final int SIGNS = 240;
        private static final int STACK = 6;
        private static final int LETTERS = 26;
        private static final int ROWS = 8;
        private static final int MOST_DAY = 10000;
        private static final long BEYOND = 1000000000L;
        private static final int NOT_TOLD = 1;
        private static final int BY_ZERO = 2;
        private static final int TOO_GREAT = 3;

        private final Text text = new Text(240);
        // A number is its own sign, all other signs are their characters below 0.
        private final int[] signs = new int[SIGNS];
        private final int[] starts = new int[LINES + 1];
        private final int[] newSigns = new int[SIGNS];
        private final int[] newStarts = new int[LINES + 1];
        private int lineCount;
        private final int[][] facts = new int[2][LETTERS];
        private final long[][] stack = new long[2][STACK];
        private int height;
        private final long[] total = new long[2];
        private final long[] value = new long[2];
        private final long[][] added = new long[2][LINES];
        private final int[][] opened = new int[2][LINES];
        private final int[][] currencies = new int[3][ROWS];
        private int currencyCount;
        private final long[] offers = new long[ROWS];
        private final int[] lastDays = new int[ROWS];
        private int offerCount;
        private final long[] invoices = new long[ROWS];
        private int invoiceCount;
        private final long[][] learned = new long[2][ROWS];

        Prices() {
            anew();
        }

        void anew() {
            text.clear();
            lineCount = 0;
            Arrays.fill(facts[1], 0);
            currencyCount = 0;
            offerCount = 0;
            invoiceCount = 0;
            Arrays.fill(learned[0], 0);
            Arrays.fill(learned[1], 0);
        }

        long call(int n, int a, int b, int c) {
            switch (n) {
                case 1: return truth(text.add(a));
                case 2: return read();
                case 3: return fact(a, b, c);
                case 4: return forget(a);
                case 5: return reckon();
                case 6: return cents();
                case 7: return line(a, b);
                case 8: return changed(a, b, c);
                case 9: return currency(a, b, c);
                case 10: return centsAt(a);
                case 11: return offer(a);
                case 12: return offered(a, b);
                case 13: return differs(a, b);
                case 14: return invoice(a, b);
                case 15: return left(a);
                case 16: return refund(a, b);
                case 17: return learn(a, b);
                default: return NO_CALL;
            }
        }

        private int read() {
            int fault = readSigns();
            text.clear();
            if (fault < 0) {
                return fault;
            }
            lineCount = fault;
            System.arraycopy(newSigns, 0, signs, 0, SIGNS);
            System.arraycopy(newStarts, 0, starts, 0, LINES + 1);
            return lineCount;
        }

        // How many lines there are, or - 1 less the place of a fault.
        private int readSigns() {
            int lines = 0;
            int count = 0;
            int high = 0;
            for (int at = 0; at < text.length(); at++) {
                int sign = text.at(at);
                if (sign == SPACE) {
                    continue;
                }
                high = lines < LINES ? heightBehind(sign, high) : NONE;
                if (high == NONE) {
                    return -1 - at;
                }
                if (text.isDigit(at)) {
                    int behind = text.behindDigits(at, 5);
                    if (text.isDigit(behind)) {
                        return -1 - behind;
                    }
                    sign = -text.number(at, behind);
                    at = behind - 1;
                }
                newSigns[count] = -sign;
                count++;
                if (isEnd(sign)) {
                    lines++;
                    newStarts[lines] = count;
                }
            }
            return lines == 0 || newStarts[lines] != count ? -1 - text.length() : lines;
        }

        private static boolean isEnd(int sign) {
            return sign == ';' || sign == '%' || sign == '=';
        }

        // How high the stack is behind a sign, or NONE if the sign can't be there.
        private static int heightBehind(int sign, int high) {
            if (isEnd(sign)) {
                return high == 1 ? 0 : NONE;
            }
            if (sign == 'r') {
                return high >= 1 ? high : NONE;
            }
            if (within(sign, '0', '9') || within(sign, 'a', 'z')) {
                return high < STACK ? high + 1 : NONE;
            }
            boolean ofTwo = sign == '+' || sign == '-' || sign == '*' || sign == '/' || sign == '<' || sign == '>';
            return ofTwo && high >= 2 ? high - 1 : NONE;
        }

        private static boolean isFact(int letter) {
            return within(letter, 'a', 'z') && letter != 'r';
        }

        private int fact(int letter, int above, int below) {
            needThing(isFact(letter));
            needNumber(within(below, 1, 10000) && within(above, -FACT_MOST, FACT_MOST));
            setFact(letter, above, below);
            return 0;
        }

        // A fact is told if what stands below is not 0.
        void setFact(int letter, int above, int below) {
            if (isFact(letter)) {
                facts[0][letter - 'a'] = above;
                facts[1][letter - 'a'] = below;
            }
        }

        private int forget(int letter) {
            needThing(isFact(letter));
            int was = truth(facts[1][letter - 'a'] != 0);
            setFact(letter, 0, 0);
            return was;
        }

        private long line(int k, int part) {
            needThing(within(k, 0, lineCount - 1) && within(part, 0, 3));
            reckon();
            return part < 2 ? added[part][k] : opened[part - 2][k];
        }

        private long changed(int letter, int above, int below) {
            needThing(isFact(letter));
            needNumber(within(below, 1, 10000) && within(above, -FACT_MOST, FACT_MOST));
            reckon();
            long before = roundedTotal();
            int oldAbove = facts[0][letter - 'a'];
            int oldBelow = facts[1][letter - 'a'];
            setFact(letter, above, below);
            reckon();
            setFact(letter, oldAbove, oldBelow);
            return roundedTotal() - before;
        }

        private int currency(int day, int above, int below) {
            int before = currencyCount == 0 ? NONE : currencies[0][currencyCount - 1];
            needNumber(within(day, before + 1, MOST_DAY));
            needNumber(within(above, 1, 1000) && within(below, 1, 1000));
            needState(currencyCount < ROWS);
            currencies[0][currencyCount] = day;
            currencies[1][currencyCount] = above;
            currencies[2][currencyCount] = below;
            currencyCount++;
            return currencyCount;
        }

        private long centsAt(int day) {
            needNumber(within(day, 0, MOST_DAY));
            reckon();
            return atDay(roundedTotal(), day);
        }

        private long atDay(long cents, int day) {
            int row = currencyCount - 1;
            while (row >= 0 && currencies[0][row] > day) {
                row--;
            }
            return row < 0 ? cents : down(cents * currencies[1][row], currencies[2][row]);
        }

        private int offer(int until) {
            needNumber(within(until, 0, MOST_DAY));
            needState(offerCount < ROWS && reckon() == 0);
            offers[offerCount] = roundedTotal();
            lastDays[offerCount] = until;
            offerCount++;
            return offerCount - 1;
        }

        int offerFault(int offer, int day) {
            if (!isOffer(offer)) {
                return 1;
            }
            if (!within(day, 0, MOST_DAY)) {
                return 2;
            }
            return day <= lastDays[offer] ? 0 : 3;
        }

        long offerCents(int offer) {
            return isOffer(offer) ? offers[offer] : 0;
        }

        private boolean isOffer(int offer) {
            return within(offer, 0, offerCount - 1);
        }

        private long offered(int offer, int day) {
            refuse(offerFault(offer, day));
            return offers[offer];
        }

        private long differs(int offer, int other) {
            needThing(isOffer(offer) && isOffer(other));
            return offers[offer] - offers[other];
        }

        private int invoice(int offer, int day) {
            refuse(offerFault(offer, day));
            long cents = atDay(offers[offer], day);
            needState(invoiceCount < ROWS && cents >= 0);
            invoices[invoiceCount] = cents;
            invoiceCount++;
            return invoiceCount - 1;
        }

        private long left(int invoice) {
            needThing(within(invoice, 0, invoiceCount - 1));
            return invoices[invoice];
        }

        private int refund(int invoice, int cents) {
            needThing(within(invoice, 0, invoiceCount - 1));
            needNumber(cents >= 0);
            if (cents > invoices[invoice]) {
                return 0;
            }
            invoices[invoice] -= cents;
            return 1;
        }

        private long learn(int kind, int minutes) {
            needThing(within(kind, 0, ROWS - 1));
            needNumber(within(minutes, 0, 100000));
            learned[0][kind]++;
            learned[1][kind] += minutes;
            return down(learned[1][kind], learned[0][kind]);
        }

        private long cents() {
            reckon();
            return roundedTotal();
        }

        private long roundedTotal() {
            return down(total[0] * 200 + total[1], 2 * total[1]);
        }

        // A RUN now: how many lines are OPEN.
        private int reckon() {
            total[0] = 0;
            total[1] = 1;
            int open = 0;
            for (int k = 0; k < lineCount; k++) {
                int reason = 0;
                int place = starts[k];
                height = 0;
                while (place < starts[k + 1] && reason == 0) {
                    reason = isEnd(-signs[place]) ? end(-signs[place], k) : lay(signs[place]);
                    place++;
                }
                opened[0][k] = reason;
                opened[1][k] = reason == 0 ? NONE : place - 1 - starts[k];
                if (reason != 0) {
                    added[0][k] = 0;
                    added[1][k] = 1;
                    open++;
                }
            }
            return open;
        }

        // What a sign comes to is laid on the stack; answers the reason if it is OPEN, else 0.
        private int lay(int sign) {
            int letter = -sign;
            int reason = 0;
            if (sign >= 0) {
                reason = tooGreat(sign, 1);
            } else if (letter == 'r') {
                reason = height < 1 ? TOO_GREAT : round();
            } else if (isFact(letter)) {
                int below = facts[1][letter - 'a'];
                reason = below < 1 ? NOT_TOLD : tooGreat(facts[0][letter - 'a'], below);
            } else {
                reason = height < 2 ? TOO_GREAT : ofTwo(letter);
            }
            if (reason != 0 || height >= STACK) {
                return reason != 0 ? reason : TOO_GREAT;
            }
            stack[0][height] = value[0];
            stack[1][height] = value[1];
            height++;
            return 0;
        }

        private int round() {
            height--;
            long below = stack[1][height];
            return tooGreat(down(stack[0][height] * 200 + below, 2 * below), 100);
        }

        private int ofTwo(int sign) {
            height -= 2;
            long a = stack[0][height];
            long b = stack[1][height];
            long c = stack[0][height + 1];
            long d = stack[1][height + 1];
            switch (sign) {
                case '+': return tooGreat(a * d + c * b, b * d);
                case '-': return tooGreat(a * d - c * b, b * d);
                case '*': return tooGreat(a * c, b * d);
                case '/': return c == 0 ? BY_ZERO : tooGreat(c < 0 ? -a * d : a * d, c < 0 ? -b * c : b * c);
                case '<': return a * d <= c * b ? tooGreat(a, b) : tooGreat(c, d);
                default: return a * d >= c * b ? tooGreat(a, b) : tooGreat(c, d);
            }
        }

        // Leaves the fraction without a common divisor in value: the reason if it is beyond, else 0.
        private int tooGreat(long above, long below) {
            long common = divisor(above, below);
            value[0] = common < 1 ? 0 : above / common;
            value[1] = common < 1 ? 1 : below / common;
            boolean beyond = value[0] < -BEYOND || value[0] > BEYOND || value[1] < 1 || value[1] > BEYOND;
            return beyond ? TOO_GREAT : 0;
        }

        private int end(int sign, int k) {
            int reason = tooGreat(stack[0][0], stack[1][0]);
            if (sign == '%') {
                reason = tooGreat(value[0], value[1] * 100);
                reason = reason != 0 ? reason : tooGreat(value[0] * total[0], value[1] * total[1]);
            } else if (sign == '=') {
                reason = tooGreat(value[0] * total[1] - total[0] * value[1], value[1] * total[1]);
            }
            long above = value[0];
            long below = value[1];
            if (reason != 0 || tooGreat(total[0] * below + above * total[1], total[1] * below) != 0) {
                return TOO_GREAT;
            }
            total[0] = value[0];
            total[1] = value[1];
            added[0][k] = above;
            added[1][k] = below;
            return 0;
        }
    }

    /** SHOP: tellings in sets that join in any order, and entries of two sides. */
    private static final class Shop {
        static final int COUNT = 0;

        private static final int MARK = 2;
        private static final int SETTLE = 3;
        private static final int TELLERS = 6;
        private static final int THINGS = 10;
        private static final int TELLINGS = 300;
        private static final int SETS = 8;
        private static final int PERSONS = 4;
        private static final int ENTRIES = 60;
        private static final int ROWS = 6;
        private static final int MONTH = 30;
        private static final int MOST_DAY = 3599;
        private static final int MOST_CENTS = 1000000000;
        private static final int TELLER = 0;
        private static final int NUMBER = 1;
        private static final int THING = 2;
        private static final int KIND = 3;
        private static final int VALUE = 4;
        private static final int ON = 5;
        private static final int IN_SETS = 6;
        private static final int DAY = 0;
        private static final int CLOSED = 1;
        private static final int SIZE = 2;
        private static final int DONE = 3;

        private final int[][] tellings = new int[7][TELLINGS];
        private int tellingCount;
        private final int[][] sets = new int[SETS][TELLINGS];
        private final int[] setSizes = new int[SETS];
        private int setCount;
        // How many TELLINGS a set had when its open BATCH was begun; it only grows, so these tell what was KNOWN.
        private final int[] batches = new int[SETS];
        private int rights;
        // Of an ENTRY: DAY, its NUMBER when CLOSED (else 0), how many ROWS, whether it is REVERSED or reverses.
        private final int[][] entries = new int[4][ENTRIES];
        private int entryCount;
        private final int[][] rows = new int[2][ENTRIES * ROWS];
        private final int[] byNumber = new int[ENTRIES + 1];
        private int numbers;
        private int closedMonth;

        Shop() {
            anew();
        }

        void anew() {
            tellingCount = 0;
            setCount = 0;
            rights = 0;
            entryCount = 0;
            numbers = 0;
            closedMonth = NONE;
        }

        long call(int n, int a, int b, int c, int d, int e, int f) {
            switch (n) {
                case 1: return tell(a, b, c, d, e, f);
                case 2: return set(a);
                case 3: return join(a, b);
                case 4: return equal(a, b);
                case 5: return at(a, b, c, d);
                case 6: return conflict(a, b);
                case 7: return mark(a);
                case 8: return since(a, b, c, d);
                case 9: return batch(a, b != 0);
                case 10: return right(a, b, c != 0);
                case 11: return seen(a, b, c, d);
                case 12: return entry(a);
                case 13: return row(a, b, c);
                case 14: return close(a);
                case 15: return balance(a, b);
                case 16: return closeMonth(a);
                case 17: return reverse(a, b);
                default: return NO_CALL;
            }
        }

        private int tell(int teller, int number, int thing, int kind, int v, int on) {
            needThing(isTeller(teller) && isThing(thing));
            needNumber(isKind(kind));
            if (hasTold(teller, number)) {
                return 0;
            }
            needState(addTelling(teller, number, thing, kind, v, on));
            return 1;
        }

        boolean hasTold(int teller, int number) {
            for (int i = 0; i < tellingCount; i++) {
                if (tellings[TELLER][i] == teller && tellings[NUMBER][i] == number) {
                    return true;
                }
            }
            return false;
        }

        boolean addTelling(int teller, int number, int thing, int kind, int v, int on) {
            if (tellingCount >= TELLINGS) {
                return false;
            }
            tellings[TELLER][tellingCount] = teller;
            tellings[NUMBER][tellingCount] = number;
            tellings[THING][tellingCount] = thing;
            tellings[KIND][tellingCount] = kind;
            tellings[VALUE][tellingCount] = v;
            tellings[ON][tellingCount] = on;
            tellings[IN_SETS][tellingCount] = 0;
            tellingCount++;
            return true;
        }

        private int set(int teller) {
            needThing(isTeller(teller));
            needState(setCount < SETS);
            int set = setCount;
            setCount++;
            setSizes[set] = 0;
            batches[set] = NONE;
            for (int i = 0; i < tellingCount; i++) {
                if (tellings[TELLER][i] == teller) {
                    add(set, i);
                    sink(set, setSizes[set] - 1);
                }
            }
            return set;
        }

        private void add(int set, int telling) {
            sets[set][setSizes[set]] = telling;
            setSizes[set]++;
            tellings[IN_SETS][telling] |= 1 << set;
        }

        private void sink(int set, int last) {
            int telling = sets[set][last];
            int i = last;
            while (i > 0 && tellings[NUMBER][sets[set][i - 1]] > tellings[NUMBER][telling]) {
                sets[set][i] = sets[set][i - 1];
                i--;
            }
            sets[set][i] = telling;
        }

        private boolean isIn(int set, int telling) {
            return (tellings[IN_SETS][telling] >> set & 1) == 1;
        }

        private int join(int set, int other) {
            needThing(isSet(set) && isSet(other));
            int came = 0;
            for (int i = 0; i < setSizes[other]; i++) {
                if (!isIn(set, sets[other][i])) {
                    add(set, sets[other][i]);
                    came++;
                }
            }
            return came;
        }

        private int equal(int set, int other) {
            needThing(isSet(set) && isSet(other));
            for (int i = 0; i < tellingCount; i++) {
                if (isIn(set, i) != isIn(other, i)) {
                    return 0;
                }
            }
            return 1;
        }

        private long at(int set, int thing, int kind, int on) {
            needThing(isSet(set) && isThing(thing));
            needNumber(isKind(kind));
            return known(set, setSizes[set], thing, kind, on);
        }

        private int conflict(int set, int k) {
            needThing(isSet(set));
            needNumber(k >= 0);
            int count = 0;
            for (int thing = 0; thing < THINGS; thing++) {
                if (conflicts(set, thing)) {
                    if (count == k) {
                        return thing;
                    }
                    count++;
                }
            }
            return NONE;
        }

        private int mark(int set) {
            needThing(isSet(set));
            return setSizes[set];
        }

        private int since(int set, int mark, int k, int what) {
            needThing(isSet(set) && (mark < 0 || k < 0 || (long) mark + k < setSizes[set]));
            needNumber(mark >= 0 && k >= 0 && within(what, 0, 2));
            int telling = sets[set][mark + k];
            return what == 0 ? tellings[TELLER][telling] : what == 1 ? tellings[NUMBER][telling] : tellings[VALUE][telling];
        }

        private int batch(int set, boolean open) {
            needThing(isSet(set));
            if (open == (batches[set] != NONE)) {
                return 0;
            }
            batches[set] = open ? setSizes[set] : NONE;
            return 1;
        }

        private int right(int person, int kind, boolean on) {
            needThing(within(person, 0, PERSONS - 1));
            needNumber(isKind(kind));
            if (hasRight(person, kind) == on) {
                return 0;
            }
            rights ^= 1 << (4 * person + kind);
            return 1;
        }

        private boolean hasRight(int person, int kind) {
            return (rights >> (4 * person + kind) & 1) == 1;
        }

        private long seen(int person, int set, int thing, int kind) {
            needThing(within(person, 0, PERSONS - 1) && isSet(set) && isThing(thing));
            needNumber(isKind(kind));
            needState(hasRight(person, kind));
            int size = batches[set] == NONE ? setSizes[set] : batches[set];
            return known(set, size, thing, kind, GREATEST);
        }

        private static boolean isTeller(int teller) {
            return within(teller, 0, TELLERS - 1);
        }

        private static boolean isThing(int thing) {
            return within(thing, 0, THINGS - 1);
        }

        private static boolean isKind(int kind) {
            return within(kind, 0, SETTLE);
        }

        private boolean isSet(int set) {
            return within(set, 0, setCount - 1);
        }

        private boolean counts(int telling, int thing, int kind, int on) {
            return tellings[THING][telling] == thing && tellings[KIND][telling] == kind && tellings[ON][telling] <= on;
        }

        private long known(int set, int size, int thing, int kind, int on) {
            if (kind == COUNT) {
                return sumOf(set, size, thing, on);
            }
            int telling = kind == MARK ? settling(set, size, thing, on) : latest(set, size, thing, kind, on);
            if (kind == MARK && telling == NONE && agree(set, size, thing, on)) {
                telling = latest(set, size, thing, MARK, on);
            }
            return telling == NONE ? 0 : tellings[VALUE][telling];
        }

        private long sumOf(int set, int size, int thing, int on) {
            long sum = 0;
            for (int i = 0; i < size; i++) {
                if (counts(sets[set][i], thing, COUNT, on)) {
                    sum += tellings[VALUE][sets[set][i]];
                }
            }
            return sum;
        }

        private int latest(int set, int size, int thing, int kind, int on) {
            int latest = NONE;
            for (int i = 0; i < size; i++) {
                int telling = sets[set][i];
                if (counts(telling, thing, kind, on) && (latest == NONE || isLater(telling, latest))) {
                    latest = telling;
                }
            }
            return latest;
        }

        private boolean isLater(int one, int other) {
            if (tellings[ON][one] != tellings[ON][other]) {
                return tellings[ON][one] > tellings[ON][other];
            }
            if (tellings[TELLER][one] != tellings[TELLER][other]) {
                return tellings[TELLER][one] > tellings[TELLER][other];
            }
            return tellings[NUMBER][one] > tellings[NUMBER][other];
        }

        // The SETTLE that holds: the latest one, if no MARK is behind it; no other can hold if that does not.
        private int settling(int set, int size, int thing, int on) {
            int settle = latest(set, size, thing, SETTLE, on);
            int mark = latest(set, size, thing, MARK, on);
            boolean holds = settle != NONE && (mark == NONE || tellings[ON][settle] >= tellings[ON][mark]);
            return holds ? settle : NONE;
        }

        private boolean agree(int set, int size, int thing, int on) {
            int first = NONE;
            for (int i = 0; i < size; i++) {
                int telling = sets[set][i];
                if (counts(telling, thing, MARK, on)) {
                    first = first == NONE ? telling : first;
                    if (tellings[VALUE][telling] != tellings[VALUE][first]) {
                        return false;
                    }
                }
            }
            return true;
        }

        private boolean conflicts(int set, int thing) {
            int size = setSizes[set];
            return settling(set, size, thing, GREATEST) == NONE && !agree(set, size, thing, GREATEST);
        }

        private int entryFault(int day) {
            return !within(day, 0, MOST_DAY) ? 2 : entryCount < ENTRIES ? 0 : 3;
        }

        int addEntry(int day) {
            if (entryFault(day) != 0) {
                return NONE;
            }
            entries[DAY][entryCount] = day;
            entries[CLOSED][entryCount] = 0;
            entries[SIZE][entryCount] = 0;
            entries[DONE][entryCount] = 0;
            entryCount++;
            return entryCount - 1;
        }

        private int entry(int day) {
            refuse(entryFault(day));
            return addEntry(day);
        }

        int addRow(int entry, int account, int cents) {
            if (!isEntry(entry) || entries[SIZE][entry] >= ROWS) {
                return NONE;
            }
            int at = entry * ROWS + entries[SIZE][entry];
            rows[0][at] = account;
            rows[1][at] = cents;
            entries[SIZE][entry]++;
            return entries[SIZE][entry];
        }

        private int row(int entry, int account, int cents) {
            needThing(isEntry(entry) && within(account, 0, 9));
            needNumber(within(cents, -MOST_CENTS, MOST_CENTS));
            needState(entries[SIZE][entry] < ROWS && entries[CLOSED][entry] == 0);
            return addRow(entry, account, cents);
        }

        private boolean isEntry(int entry) {
            return within(entry, 0, entryCount - 1);
        }

        private boolean isMonthClosed(int day) {
            return day / MONTH <= closedMonth;
        }

        int closeEntry(int entry) {
            if (!isEntry(entry)) {
                return 0;
            }
            long sum = 0;
            for (int i = 0; i < entries[SIZE][entry]; i++) {
                sum += rows[1][entry * ROWS + i];
            }
            if (entries[SIZE][entry] == 0 || sum != 0 || isMonthClosed(entries[DAY][entry]) || numbers >= ENTRIES) {
                return 0;
            }
            numbers++;
            entries[CLOSED][entry] = numbers;
            byNumber[numbers] = entry;
            return numbers;
        }

        private int close(int entry) {
            needThing(isEntry(entry));
            needState(entries[CLOSED][entry] == 0);
            return closeEntry(entry);
        }

        private long balance(int account, int day) {
            needThing(within(account, 0, 9));
            long sum = 0;
            for (int number = 1; number <= numbers; number++) {
                int entry = byNumber[number];
                for (int i = 0; i < entries[SIZE][entry] && entries[DAY][entry] <= day; i++) {
                    sum += rows[0][entry * ROWS + i] == account ? rows[1][entry * ROWS + i] : 0;
                }
            }
            return sum;
        }

        private int closeMonth(int month) {
            needNumber(within(month, 0, MOST_DAY / MONTH));
            if (month <= closedMonth) {
                return 0;
            }
            closedMonth = month;
            return 1;
        }

        private int reverse(int number, int day) {
            needThing(within(number, 1, numbers));
            needNumber(within(day, 0, MOST_DAY));
            int entry = byNumber[number];
            needState(entries[DONE][entry] == 0 && entryCount < ENTRIES);
            if (isMonthClosed(day)) {
                return 0;
            }
            int back = addEntry(day);
            for (int i = 0; i < entries[SIZE][entry]; i++) {
                addRow(back, rows[0][entry * ROWS + i], -rows[1][entry * ROWS + i]);
            }
            entries[DONE][entry] = 1;
            entries[DONE][back] = 1;
            return closeEntry(back);
        }
    }
}
