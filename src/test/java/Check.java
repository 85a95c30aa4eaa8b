/** What all tests share: answers that are due, calls whose refusals become numbers. */
final class Check {
    static final long THING = -7000000000000000001L;
    static final long NUMBER = -7000000000000000002L;
    static final long STATE = -7000000000000000003L;
    /** What an object answers behind this many calls is free. */
    private static final int MOST_CALLS = 512;
    private static final TimberHouse[] known = new TimberHouse[16];
    private static final int[] calls = new int[16];
    private static int latest;
    private static int wrong;
    private static int asked;

    private Check() {
    }

    static void due(String what, long got, long want) {
        asked++;
        if (got != want) {
            wrong++;
            if (wrong <= 40) {
                System.out.println(what + " answered " + told(got) + ", due is " + told(want));
            }
        }
    }

    private static String told(long v) {
        return v == THING ? "no such thing" : v == NUMBER ? "no such number" : v == STATE ? "not as things are" : "" + v;
    }

    private static void count(TimberHouse x) {
        for (int i = 0; i < known.length; i++) {
            if (known[i] == x) {
                calls[i]++;
                if (calls[i] == MOST_CALLS + 1) {
                    wrong++;
                    System.out.println("an object is used for more than " + MOST_CALLS + " calls");
                }
                return;
            }
        }
        latest = (latest + 1) % known.length;
        known[latest] = x;
        calls[latest] = 1;
    }

    /** How many calls of act() an object has left; calls of the desk are not counted here. */
    static int left(TimberHouse x) {
        for (int i = 0; i < known.length; i++) {
            if (known[i] == x) {
                return MOST_CALLS - calls[i];
            }
        }
        return MOST_CALLS;
    }

    static long act(TimberHouse x, int... v) {
        count(x);
        int[] a = java.util.Arrays.copyOf(v, 7);
        try {
            return x.act(a[0], a[1], a[2], a[3], a[4], a[5], a[6]);
        } catch (IndexOutOfBoundsException e) {
            return refused(e, IndexOutOfBoundsException.class, THING, v);
        } catch (IllegalArgumentException e) {
            return refused(e, IllegalArgumentException.class, NUMBER, v);
        } catch (IllegalStateException e) {
            return refused(e, IllegalStateException.class, STATE, v);
        } catch (RuntimeException e) {
            return refused(e, null, 0, v);
        }
    }

    private static long refused(RuntimeException e, Class<?> kind, long answer, int[] v) {
        boolean own = e.getClass() == kind && e.getStackTrace()[0].getClassName().startsWith("TimberHouse");
        if (!own) {
            wrong++;
            System.out.println("the machine threw in act(" + java.util.Arrays.toString(v) + "): " + e
                + " at " + e.getStackTrace()[0]);
        }
        return answer;
    }

    static void due(TimberHouse x, long want, int... v) {
        due("act" + java.util.Arrays.toString(v), act(x, v), want);
    }

    static void write(TimberHouse x, int call, String text) {
        for (int i = 0; i < text.length(); i++) {
            due(x, 1, call, text.charAt(i));
        }
    }

    static void read(TimberHouse x, int unit, String text, long want) {
        write(x, unit, text);
        due("read of \"" + text + "\"", act(x, unit + 1), want);
    }

    static void end() {
        System.out.println(wrong == 0 ? asked + " answers are as due" : wrong + " answers are not as due");
        if (wrong != 0) {
            System.exit(1);
        }
    }
}
