import java.util.Random;

/** Any calls in any order: the machine never throws, and a call that is refused changes nothing. */
public final class AnyCallsTest {
    private static final int[] EDGES = {0, 1, -1, 2, 3, 5, 8, 10, 16, 20, 32, 59, 64, 97, 100, 127, 240, 300, 1000, 3600,
        10000, 65536, 100000, 1000000000, 2147483647, -2147483648, 2147483646, -2147483647, -100};
    private static final String[] TEXTS = {"n size 12;s force 3;b edge 2", "G0X3Y2Z50;G1Z10;T1;G1X1Y1;", "a 2*;10%b c+r=3 0/;"};
    private static final int[] LAST = {12, 17, 15, 25, 17, 11, 12, 14, 17, 17};

    public static void main(String[] args) {
        for (int seed = 0; seed < 600; seed++) {
            run(new Random(seed));
        }
        Check.end();
    }

    private static int number(Random random) {
        int how = random.nextInt(10);
        return how < 6 ? random.nextInt(7) : how < 8 ? random.nextInt(40) - 2 : how < 9 ? random.nextInt(1200) : EDGES[random.nextInt(EDGES.length)];
    }

    private static void run(Random random) {
        TimberHouse one = new TimberHouse();
        TimberHouse other = new TimberHouse();
        int part = random.nextInt(13);
        while (Check.left(one) > 130) {
            int p = part < 10 && random.nextInt(4) > 0 ? part : random.nextInt(10);
            int how = random.nextInt(12);
            if (how == 0) {
                desk(one, other, random);
            } else if (how == 1 && (p == 4 || p == 6 || p == 8)) {
                write(one, other, p, random);
            } else {
                int n = random.nextInt(60) == 0 ? 0 : 1 + random.nextInt(LAST[p] + (random.nextInt(20) == 0 ? 3 : 0));
                int[] v = {100 * p + n, number(random), number(random), number(random), number(random), number(random), number(random)};
                long got = Check.act(one, v);
                boolean refused = got == Check.THING || got == Check.NUMBER || got == Check.STATE;
                if (!refused) {
                    Check.due(other, got, v);
                }
            }
        }
    }

    private static void write(TimberHouse one, TimberHouse other, int p, Random random) {
        String text = TEXTS[p / 2 - 2];
        int call = 100 * p + (p == 6 ? 4 : 1);
        for (int i = 0; i < text.length(); i++) {
            int sign = random.nextInt(80) == 0 ? number(random) : text.charAt(i);
            Check.due(other, Check.act(one, call, sign), call, sign);
        }
        Check.due(other, Check.act(one, call + 1), call + 1);
    }

    private static void desk(TimberHouse one, TimberHouse other, Random random) {
        int a = number(random);
        int b = number(random);
        int c = number(random);
        int d = number(random);
        switch (random.nextInt(9)) {
            case 0: Check.due("rip", one.rip(a, b * 10), other.rip(a, b * 10)); break;
            case 1: Check.due("fingers", one.fingers(a), other.fingers(a)); break;
            case 2: Check.due("hours", one.hours(a, b), other.hours(a, b)); break;
            case 3: Check.due("passes", one.passes(a, b, c, d), other.passes(a, b, c, d)); break;
            case 4: Check.due("route", one.route(a, b), other.route(a, b)); break;
            case 5: Check.due("facts", one.facts(), other.facts()); break;
            case 6: Check.due("book", one.book(a, b), other.book(a, b)); break;
            case 7: Check.due("stock", one.stock(a), other.stock(a)); break;
            default: Check.due("whole", one.whole(a), other.whole(a)); break;
        }
    }
}
