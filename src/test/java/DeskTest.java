import java.util.Random;

/** The desk: a new object, ANEW, calls that there are not, and what is carried from part to part. */
public final class DeskTest {
    private static final int[] LAST = {12, 17, 15, 25, 17, 11, 12, 14, 17, 17};

    public static void main(String[] args) {
        calls();
        anew();
        rips();
        fingers();
        hours();
        passes();
        routes();
        facts();
        books();
        stocks();
        carries(new Random(15));
        Check.end();
    }

    private static void calls() {
        for (int part = 0; part < 10; part++) {
            TimberHouse x = new TimberHouse();
            for (int n = 1; n < 100; n++) {
                boolean is = n <= LAST[part];
                Check.due("call " + (100 * part + n), Check.act(x, 100 * part + n, -99, -99, -99, -99, -99, -99) == TimberHouse.NO_CALL ? 0 : 1, is ? 1 : 0);
            }
        }
        TimberHouse x = new TimberHouse();
        for (int call : new int[] {-1, -100, 1000, 1001, 2147483647, -2147483648}) {
            Check.due(x, TimberHouse.NO_CALL, call);
        }
        Check.due("NO_CALL", TimberHouse.NO_CALL, -9000000000000000000L);
        Check.due("BAD", TimberHouse.BAD, -1);
        Check.due("whole(0)", x.whole(0), 0);
    }

    private static void anew() {
        TimberHouse x = new TimberHouse();
        for (int what = -1; what < 5; what++) {
            Check.due("whole", x.whole(what), what < 0 || what > 3 ? -1 : 0);
        }
        for (int part = 0; part < 10; part++) {
            for (int i = 0; i < 6; i++) {
                Check.due(x, i < 4 ? 1 : 0, 100 * part, 2, 2, 2);
                Check.due("whole(0)", x.whole(0), 4 * part + Math.min(4, i + 1));
            }
        }
        // As made at first: SIDE 12, RIPS 24 by 10 steps, KERF 0, SIDE 20, a tool's FEED 1, sizes 1.
        TimberHouse y = new TimberHouse();
        Check.due(y, Check.THING, 1, 0, 12, 0, 0);
        Check.due(y, 0, 1, 0, 11, 11, 0);
        Check.due(y, 0, 108, 0, 2);
        Check.due(y, 10, 115, -1, 0);
        Check.due(y, 24, 115, 0, 2);
        Check.due(y, 0, 201, 609, 0);
        Check.due(y, Check.NUMBER, 201, 610, 0);
        Check.due(y, 0, 608, 19, 19, 2);
        Check.due(y, 100, 608, 19, 19, 1);
        Check.due(y, 1, 403, 3, 6);
        Check.due(y, 0, 806);
    }

    /** A log of which a board three by one is SAWN: 30 wide, so three steps of RIPS. */
    private static TimberHouse sawn(int thick, int wide) {
        TimberHouse x = new TimberHouse();
        for (int y = 0; y < 3; y++) {
            Check.due(x, 0, 2, 0, y, 0, 3);
            Check.due(x, 0, 2, 1, y, 0, 3);
        }
        Check.due(x, 0, 4, thick, wide, 5, 0);
        Check.due("rip before a run", x.rip(0, 100), -1);
        Check.due(x, 2, 5);
        return x;
    }

    private static void rips() {
        TimberHouse x = sawn(1, 3);
        Check.due(x, 0, 102, 10, 10, 240, 2);
        Check.due("rip", x.rip(0, 9), -1);
        Check.due("rip", x.rip(0, 241), -1);
        Check.due("rip", x.rip(-1, 100), -1);
        Check.due("rip", x.rip(2, 100), -1);
        Check.due(x, 1, 105, 0, 5);
        Check.due("rip", x.rip(0, 100), 1);
        Check.due(x, Check.THING, 105, 0, 5);
    }

    private static void fingers() {
        TimberHouse x = new TimberHouse();
        Check.due("fingers", x.fingers(0), -1);
        Check.due(x, 0, 102, 50, 100, 240, 1);
        Check.due(x, 1, 102, 30, 10, 90, 1);
        int all = (int) Check.act(x, 108, 0, 2);
        int longOnes = 0;
        for (int k = 0; k < all; k++) {
            longOnes += Check.act(x, 111, k, 2) >= 8 ? 1 : 0;
        }
        Check.due("fingers", x.fingers(-1), -1);
        Check.due("fingers", x.fingers(25), 0);
        Check.due("fingers", x.fingers(8), longOnes);
        Check.due("fingers", x.fingers(0), all);
        Check.due(x, 0, 205);
        Check.due(x, sumOf(x, 0) + sumOf(x, 8), 208, 2);
        Check.due(x, Check.THING, 207, longOnes + all);
        for (int i = 0; i < 24; i++) {
            x.fingers(0);
        }
        Check.due("fingers without room", x.fingers(0), 0);
        Check.due(x, 0, 205);
        Check.due(x, 23, 207, 23);
        Check.due(x, Check.STATE, 201, 1, 0);
        Check.due(x, 1, 106, 5);
        Check.due("fingers without a plan", x.fingers(0), -1);
        groups();
    }

    private static long sumOf(TimberHouse x, int least) {
        long sum = 0;
        for (int k = 0; k < Check.act(x, 111, -1, 0); k++) {
            long steps = Check.act(x, 111, k, 2);
            sum += steps >= least ? steps : 0;
        }
        return sum;
    }

    /** The PIECE of RIPS is the GROUP of FINGERS: what is ALONE is not joined with another one. */
    private static void groups() {
        TimberHouse x = new TimberHouse();
        Check.due(x, 1, 100, 20, 110, 10);
        Check.due(x, 0, 102, 10, 70, 70, 9);
        Check.due(x, 1, 102, 10, 40, 40, 5);
        Check.due(x, 4, 108, 0, 2);
        Check.due("fingers", x.fingers(0), 4);
        Check.due(x, 1, 202, 100, 7);
        Check.due(x, 2, 205);
        Check.due(x, 1, 204, 1, 1);
        Check.due(x, 0, 205);
        // FINGERS of a finer STEP refuses pieces of more than 60 steps: the third one here, that of 70.
        Check.due(x, 1, 101, 0, 0, 45, 0, 20, 10);
        Check.due(x, 4, 108, 0, 2);
        Check.due(x, 7, 111, 2, 2);
        Check.due(x, 1, 200, 1, 1);
        Check.due("fingers", x.fingers(0), 2);
        Check.due("fingers", x.fingers(5), 0);
        Check.due(x, 2, 201, 1, 0);
    }

    private static void hours() {
        TimberHouse x = new TimberHouse();
        Check.due(x, 0, 703, 500, 1);
        Check.due(x, 0, 701, 2);
        Check.due("hours", x.hours(0, 2), -1);
        Check.due(x, 0, 505);
        Check.due("hours of nothing", x.hours(0, 2), 0);
        Check.due(x, 0, 501, 16, 16, 1, 20);
        Check.due("hours", x.hours(0, 2), -1);
        Check.due(x, 0, 502, 1, 16, 50, 0);
        Check.due(x, 4, 505);
        Check.due("hours of four sheets", x.hours(0, 2), 1);
        Check.due("no such job", x.hours(1, 2), -1);
        Check.due("no such kind", x.hours(0, 4), -1);
        Check.due("a kind without a machine", x.hours(0, 1), 2);
        Check.due("hours", x.hours(0, 2), 3);
        Check.due("no room", x.hours(0, 2), -1);
        Check.due(x, Check.STATE, 706, 9);
        Check.due(x, 1, 701, 1);
        Check.due(x, 0, 706, 9);
        long minutes = 0;
        for (int k = 0; k < 4; k++) {
            minutes += Check.act(x, 506, k, 5);
        }
        Check.due(x, 0, 708, 0, 0);
        Check.due(x, 1, 708, 1, 0);
        Check.due(x, 1 + (minutes + 59) / 60, 708, 2, 0);
    }

    private static void passes() {
        TimberHouse x = new TimberHouse();
        Check.due(x, 0, 703, 500, 1);
        Check.due(x, 0, 701, 0);
        Check.due("passes", x.passes(0, 0, 0, 0), -1);
        Check.due(x, 0, 301, 500);
        Check.due(x, 1, 302, 1, 0);
        Check.due(x, 0, 304);
        Check.due(x, 0, 307, 0);
        Check.due(x, 51, 310, 0, 0, 10, 1);
        Check.due("passes", x.passes(0, 0, 0, 0), 0);
        Check.due("no such tool", x.passes(0, 1, 0, 0), -1);
        Check.due("no such piece", x.passes(1, 0, 0, 0), -1);
        Check.due("no such job", x.passes(0, 0, 1, 0), -1);
        Check.due("no such kind", x.passes(0, 0, 0, 9), -1);
        Check.due(x, 0, 301, 0);
        Check.due(x, 1, 302, 1, 0);
        Check.due(x, 1, 304);
        Check.due("passes", x.passes(1, 0, 0, 0), 1);
        Check.due("passes", x.passes(1, 0, 0, 0), 2);
        Check.due(x, 0, 706, 9);
        Check.due(x, 51, 708, 1, 0);
        Check.due(x, 52, 708, 2, 0);
    }

    private static void routes() {
        TimberHouse x = new TimberHouse();
        Check.due("route", x.route(0, 0), -1);
        Check.due(x, 0, 501, 12, 10, 1, 1);
        Check.due(x, 0, 502, 4, 10, 9, 0);
        Check.due(x, 1, 505);
        Check.due("route", x.route(1, 0), -1);
        Check.due("route", x.route(-1, 0), -1);
        Check.due("route", x.route(0, 100), -1);
        Check.due("route", x.route(0, -1), -1);
        Check.due("route", x.route(0, 7), 3);
        Check.due("whole(1)", x.whole(1), 3);
        // G0X0Y0;G1Z7;G1X3;G0Z100; and so on: heights of 7 along y 0.
        Check.due(x, 12, 605);
        Check.due(x, 0, 606);
        for (int at = 0; at < 13; at++) {
            Check.due(x, at < 12 ? 7 : 100, 608, at, 0, 0);
        }
        Check.due(x, 100, 608, 0, 1, 0);
        Check.due(x, 11, 607, 2);
        // A narrower grid takes but the parts that end on it.
        Check.due(x, 1, 600, 11);
        Check.due("route", x.route(0, 99), 2);
        Check.due(x, 8, 605);
        // Ten texts of 24 signs fill 240: the next part has no room.
        Check.due(x, 1, 600, 11);
        for (int i = 0; i < 5; i++) {
            Check.due("route", x.route(0, 7), 2);
        }
        Check.due("route", x.route(0, 7), 0);
        Check.due("whole(1)", x.whole(1), 15);
        Check.due(x, 0, 604, ';');
        Check.due(x, -1 - 192, 605);
        Check.due(x, 1, 604, 'T');
        Check.due("route", x.route(0, 50), 2);
        Check.due(x, -2, 605);
        Check.due(x, 9, 503, 0, 9);
        Check.due("route without a run", x.route(0, 7), -1);
    }

    private static void facts() {
        TimberHouse x = new TimberHouse();
        Check.due("facts", x.facts(), 0);
        Check.due(x, 0, 803, 'a', 5, 1);
        Check.due(x, 0, 803, 'f', 5, 1);
        Check.due("facts", x.facts(), 0);
        Check.due(x, 0, 804, 'a');
        Check.due(x, 1, 804, 'f');
        Check.due(x, 0, 505);
        Check.due(x, 0, 108, 0, 1);
        Check.due(x, 0, 205);
        Check.due(x, 0, 5);
        Check.due("facts", x.facts(), 4);
        Check.due(x, 0, 703, 0, 100);
        Check.due(x, 0, 701, 0);
        Check.due(x, 0, 705, 0, 0, 100, 0);
        Check.due(x, 0, 706, 1);
        Check.due("facts", x.facts(), 5);
        Check.read(x, 801, "b;", 1);
        Check.due(x, 1000000, 806);
        Check.due(x, 1, 705, 0, 0, 100, 0);
        Check.due("facts of a plan that is behind", x.facts(), 5);
        // 24 steps by 100000 are too many to be told.
        Check.due(x, 0, 102, 10, 240, 240, 100000);
        Check.due(x, 10, 108, 0, 1);
        Check.due("facts", x.facts(), 4);
        Check.due(x, 0, 804, 'd');
        Check.due(x, 1, 107, 100);
        Check.due("facts", x.facts(), 4);
        Check.due(x, 0, 108, 0, 1);
        Check.due("facts", x.facts(), 5);
        Check.due(x, 0, 2, 0, 0, 0, 12);
        Check.due("facts", x.facts(), 4);
        Check.due(x, 0, 804, 'e');
        hundredths();
    }

    private static void hundredths() {
        TimberHouse x = new TimberHouse();
        Check.due(x, 0, 501, 3, 3, 1234, 1);
        Check.due(x, 0, 502, 1, 1, 1, 0);
        Check.due(x, 1, 505);
        Check.due(x, 0, 201, 100, 0);
        Check.due(x, 1, 202, 50, 777);
        Check.due(x, 2, 205);
        Check.due(x, 0, 102, 100, 240, 240, 3);
        Check.due(x, 1, 108, 0, 1);
        Check.due(x, 0, 4, 1, 1, 9, 1);
        Check.due(x, 36, 5);
        Check.due("facts", x.facts(), 4);
        Check.read(x, 801, "a;c;d;e;", 4);
        int[] above = {1234, 1554, 72, 324};
        for (int k = 0; k < 4; k++) {
            Check.due("a fact by 100", Check.act(x, 807, k, 0) * 100, above[k] * Check.act(x, 807, k, 1));
        }
    }

    private static void books() {
        TimberHouse x = new TimberHouse();
        Check.due("book", x.book(0, 5), -1);
        Check.read(x, 801, "12 5/;", 1);
        Check.due(x, 0, 811, 4000);
        Check.due(x, 1, 809, 0, 1, 2);
        Check.due("book", x.book(0, -1), -1);
        Check.due("book", x.book(0, 4001), -1);
        Check.due("book of a day that SHOP has not", x.book(0, 3600), -1);
        Check.due("book", x.book(0, 3599), 1);
        Check.due(x, 240, 915, 0, 3599);
        Check.due(x, -240, 915, 1, 3599);
        Check.due(x, 0, 915, 0, 3598);
        Check.due(x, Check.STATE, 914, 0);
        Check.due("whole(2)", x.whole(2), 1);
        Check.due(x, 1, 916, 1);
        Check.due("book in a closed month", x.book(0, 59), -1);
        Check.due("whole(2)", x.whole(2), 1);
        Check.due(x, 0, 914, 1);
        Check.due(x, 3, 913, 1, 5, 0);
        Check.due("book", x.book(0, 60), 2);
        Check.due(x, 3, 912, 0);
        // CENTS of 1,000,000,000 are booked, two more are beyond.
        Check.read(x, 801, "50000 200*;", 1);
        Check.due(x, 1, 811, 100);
        Check.read(x, 801, "50000 200*1 50/+;", 1);
        Check.due(x, 2, 811, 100);
        Check.read(x, 801, "0 50000 200*-;", 1);
        Check.due(x, 3, 811, 100);
        Check.read(x, 801, "0 50000 200*-1 50/-;", 1);
        Check.due(x, 4, 811, 100);
        Check.due("book", x.book(1, 70), 3);
        Check.due("book", x.book(2, 70), -1);
        Check.due("book", x.book(3, 70), 4);
        Check.due("book", x.book(4, 70), -1);
        Check.due(x, 6, 912, 0);
        for (int i = 7; i < 60; i++) {
            Check.due(x, i, 912, 0);
        }
        Check.due("book without room", x.book(0, 70), -1);
        Check.due("whole(2)", x.whole(2), 4);
        Check.due(x, 1, 900);
        Check.due("book", x.book(0, 0), 1);
        Check.due("whole(2)", x.whole(2), 5);
    }

    private static void stocks() {
        TimberHouse x = new TimberHouse();
        Check.due("stock", x.stock(0), -1);
        Check.due(x, 0, 501, 3, 3, 1, 2);
        Check.due(x, 0, 502, 1, 1, 8, 0);
        Check.due(x, 2, 505);
        long taken = Check.act(x, 506, 0, 1) + Check.act(x, 506, 1, 1);
        Check.due("stock", x.stock(-2147483648), 1);
        Check.due("stock", x.stock(2147483647), 2);
        Check.due(x, 1, 901, 5, 3, 0, 0, 0, 0);
        Check.due("stock", x.stock(0), -1);
        Check.due(x, 0, 902, 5);
        Check.due(x, taken, 905, 0, 9, 0, -2147483648);
        Check.due(x, 2 * taken, 905, 0, 9, 0, 2147483647);
        Check.due("whole(3)", x.whole(3), 2);
        Check.due(x, 1, 900);
        Check.due("stock", x.stock(0), 3);
        for (int i = 1; i < 300; i++) {
            Check.due(x, 1, 901, 0, i, 0, 0, 0, 0);
        }
        Check.due("stock without room", x.stock(0), -1);
        Check.due(x, 8, 503, 0, 8);
        Check.due("stock without a run", x.stock(0), -1);
        Check.due("whole(3)", x.whole(3), 3);
    }

    /** What rip() tells RIPS, and what a refused one leaves. */
    private static void carries(Random random) {
        for (int i = 0; i < 40; i++) {
            TimberHouse x = new TimberHouse();
            int thick = 1 + random.nextInt(4);
            int wide = 1 + random.nextInt(4);
            for (int y = 0; y < 12; y++) {
                Check.due(x, 0, 2, 0, y, 0, 12);
                Check.due(x, 0, 2, 1, y, 0, 12);
            }
            Check.due(x, 0, 4, thick, wide, 5, 0);
            long boards = Check.act(x, 5);
            int length = 10 + random.nextInt(231);
            Check.due("rip", x.rip((int) boards, length), -1);
            Check.due("whole(0)", x.whole(0), 0);
            Check.due("rip", x.rip(random.nextInt((int) boards), length), 1);
            Check.due("whole(0)", x.whole(0), 1);
            Check.due(x, 0, 108, 0, 2);
            Check.due(x, Math.max(thick, wide), 115, -1, 0);
            Check.due(x, length / 10, 115, 0, 2);
            Check.due(x, 1, 100, 10, 10, 10);
            Check.due(x, 1, 100, 10, 10, 10);
            Check.due("rip", x.rip(0, 20), 1);
            Check.due("rip", x.rip(0, 20), -1);
            Check.due(x, 0, 100, 10, 10, 10);
            Check.due("whole(0)", x.whole(0), 4);
        }
    }
}
