import java.lang.reflect.Constructor;
import java.lang.reflect.Field;
import java.lang.reflect.Method;
import java.lang.reflect.Modifier;
import java.util.Arrays;

/** The desk and the face: each sentence that names a boundary, its last value that is allowed and its first that is not. */
public final class DeskEdgesTest {
    private static final int[] LAST = {12, 17, 15, 25, 17, 11, 12, 14, 17, 17};

    public static void main(String[] args) {
        face();
        constants();
        newObject();
        noSuchCall();
        anewFourTimes();
        ripLengths();
        ripBoards();
        ripNotSawn();
        ripLongerSide();
        ripFourTimes();
        fingersAsked();
        fingersLeast();
        fingersRefused();
        fingersGroups();
        hoursAsked();
        hoursUpwards();
        hoursRefused();
        passesAsked();
        passesLeast();
        routeAsked();
        routeText();
        routeSide();
        routeRoom();
        routeBehindText();
        factsNone();
        factsNumbers();
        factsBeyond();
        factsForgotten();
        bookAsked();
        bookBeyond();
        bookRows();
        bookRefused();
        bookMonth();
        stockAsked();
        stockNumbers();
        stockRefused();
        wholes();
        Check.end();
    }

    private static void bad(String what, int got) {
        Check.due(what, got, -1);
    }

    private static void is(String what, boolean right) {
        Check.due(what, right ? 1 : 0, 1);
    }

    /** The public face is what the document shows, and nothing else is to be seen from outside. */
    private static void face() {
        Class<?> face = TimberHouse.class;
        is("public and final", Modifier.isPublic(face.getModifiers()) && Modifier.isFinal(face.getModifiers()));
        is("of no other class", face.getSuperclass() == Object.class && face.getInterfaces().length == 0);
        String[] methods = {"long act 7", "int rip 2", "int fingers 1", "int hours 2", "int passes 4", "int route 2", "int facts 0",
            "int book 2", "int stock 1", "int whole 1"};
        int seen = 0;
        for (Method m : face.getDeclaredMethods()) {
            if (!Modifier.isPrivate(m.getModifiers()) && !m.isSynthetic()) {
                String told = m.getReturnType() + " " + m.getName() + " " + m.getParameterCount();
                is(told, Modifier.isPublic(m.getModifiers()) && !Modifier.isStatic(m.getModifiers()) && Arrays.asList(methods).contains(told));
                for (Class<?> type : m.getParameterTypes()) {
                    is("ints are told to " + told, type == int.class);
                }
                seen++;
            }
        }
        Check.due("methods of the face", seen, methods.length);
        Constructor<?>[] made = face.getDeclaredConstructors();
        is("one constructor", made.length == 1 && made[0].getParameterCount() == 0 && Modifier.isPublic(made[0].getModifiers()));
        for (Field f : face.getDeclaredFields()) {
            if (!Modifier.isPrivate(f.getModifiers()) && !f.isSynthetic()) {
                boolean constant = Modifier.isPublic(f.getModifiers()) && Modifier.isStatic(f.getModifiers()) && Modifier.isFinal(f.getModifiers());
                is(f.getName(), constant && (f.getName().equals("NO_CALL") ? f.getType() == long.class : f.getName().equals("BAD") && f.getType() == int.class));
            }
        }
    }

    // "NO_CALL (- 9,000,000,000,000,000,000)"
    private static void constants() {
        Check.due("NO_CALL", TimberHouse.NO_CALL, -9000000000000000000L);
        Check.due("BAD", TimberHouse.BAD, -1);
    }

    // "All parts are as they are ANEW at first.", and two objects have nothing in common.
    private static void newObject() {
        TimberHouse x = new TimberHouse();
        Check.due(x, 0, 2, 0, 0, 0, 12);
        Check.due(x, 0, 102, 10, 10, 10, 1);
        Check.due(x, 0, 201, 10, 1);
        Check.due(x, 0, 307, 5);
        Check.due(x, 1, 401, 'n');
        Check.due(x, 0, 501, 1, 1, 1, 1);
        Check.due(x, 1, 604, 'T');
        Check.due(x, 0, 701, 1);
        Check.due(x, 0, 803, 'a', 1, 1);
        Check.due(x, 1, 901, 5, 1, 1, 1, 1, 1);
        Check.due(x, 1, 0, 1, 1);
        TimberHouse y = new TimberHouse();
        Check.due(y, 0, 1, 0, 0, 0, 0);
        Check.due(y, 0, 102, 10, 10, 10, 1);
        Check.due(y, 0, 201, 10, 1);
        Check.due(y, 0, 307, 5);
        Check.due(y, -1, 402);
        Check.due(y, 0, 501, 1, 1, 1, 1);
        Check.due(y, -1, 605);
        Check.due(y, 0, 701, 1);
        Check.due(y, 0, 804, 'a');
        Check.due(y, 1, 901, 5, 1, 1, 1, 1, 1);
        Check.due("whole(0)", y.whole(0), 0);
        Check.due("whole(0)", x.whole(0), 1);
    }

    // "there is no such call: NO_CALL"
    private static void noSuchCall() {
        for (int part = 0; part < 10; part++) {
            TimberHouse x = new TimberHouse();
            for (int n = LAST[part] + 1; n < 100; n++) {
                Check.due(x, TimberHouse.NO_CALL, 100 * part + n);
                Check.due(x, TimberHouse.NO_CALL, 100 * part + n, 1, 1, 1, 1, 1, 1);
            }
            Check.due("call", Check.act(x, 100 * part + LAST[part], -9, -9) == TimberHouse.NO_CALL ? 1 : 0, 0);
            Check.due("whole(0)", x.whole(0), 0);
        }
        TimberHouse x = new TimberHouse();
        for (int call : new int[] {-1, -2, -99, -100, -101, -1000, 1000, 1001, 1100, 2147483647, -2147483648, 65536, 65536 * 100}) {
            Check.due(x, TimberHouse.NO_CALL, call, 5, 5, 5, 5, 5, 5);
        }
        Check.due("whole(0)", x.whole(0), 0);
    }

    // "1; 0, and nothing, if it was made ANEW 4 times", each part by itself; "How often parts were made ANEW together"
    private static void anewFourTimes() {
        TimberHouse x = new TimberHouse();
        for (int i = 1; i <= 6; i++) {
            for (int part = 9; part >= 0; part--) {
                Check.due(x, i <= 4 ? 1 : 0, 100 * part, 3, 3, 3);
                Check.due("whole(0)", x.whole(0), i <= 4 ? 10 * (i - 1) + 10 - part : 40);
            }
        }
    }

    /** A log of 12 by 1 with boards of 1 by 5 and one left over; the board is SAWN unless told otherwise. */
    private static Twins log() {
        Twins t = new Twins();
        t.due(0, 2, 0, 0, 0, 12);
        t.due(0, 2, 1, 0, 0, 12);
        t.due(0, 4, 1, 5, 7, 0);
        return t;
    }

    private static void rip(Twins t, int want, int board, int length) {
        Check.due("rip", t.first().rip(board, length), want);
        Check.due("rip", t.second().rip(board, length), want);
    }

    private static void ripped(Twins t, int longSteps, int wideSteps) {
        t.due(0, 108, 0, 1);
        t.due(wideSteps, 115, -1, 0);
        t.due(longSteps, 115, 0, 2);
    }

    // "BAD: length is not 10 .. 240"
    private static void ripLengths() {
        Twins t = log();
        t.due(2, 5);
        t.due(0, 102, 10, 10, 240, 3);
        t.due(10, 108, 0, 2);
        for (int length : new int[] {9, 241, 0, -10, 2147483647, -2147483648}) {
            bad("rip", t.first().rip(0, length));
        }
        t.due(10, 111, -1, 0);
        Check.due("whole(0)", t.first().whole(0), 0);
        rip(t, 1, 0, 10);
        t.state(110);
        ripped(t, 1, 5);
        rip(t, 1, 0, 240);
        ripped(t, 24, 5);
        bad("rip", t.first().rip(0, 241));
        bad("rip", t.first().rip(0, 9));
        rip(t, 1, 0, 239);
        ripped(t, 23, 5);
        rip(t, 1, 0, 19);
        ripped(t, 1, 5);
        Check.due("whole(0)", t.first().whole(0), 4);
    }

    // "there is no such board"
    private static void ripBoards() {
        Twins t = log();
        t.due(2, 5);
        bad("rip", t.first().rip(-1, 100));
        bad("rip", t.first().rip(2, 100));
        bad("rip", t.first().rip(2147483647, 100));
        bad("rip", t.first().rip(-2147483648, 100));
        rip(t, 1, 1, 100);
        ripped(t, 10, 5);
        rip(t, 1, 0, 90);
        ripped(t, 9, 5);
        Check.due("whole(0)", t.first().whole(0), 2);
    }

    // "nothing is SAWN"
    private static void ripNotSawn() {
        Twins t = log();
        bad("rip", t.first().rip(0, 100));
        t.due(2, 5);
        t.due(0, 2, 0, 0, 0, 0);
        bad("rip", t.first().rip(0, 100));
        t.due(2, 5);
        t.due(1, 3, 11, 11, 5);
        bad("rip", t.first().rip(0, 100));
        t.due(2, 5);
        t.due(0, 3, 11, 11, 5);
        rip(t, 1, 0, 100);
        t.due(1, 0, 12, 1);
        bad("rip", t.first().rip(0, 100));
        t.due(0, 5);
        bad("rip", t.first().rip(0, 100));
        ripped(t, 10, 5);
        Check.due("whole(0)", t.first().whole(0), 2);
    }

    // "10 times the greater of the cells along x and along y"
    private static void ripLongerSide() {
        int[][] sizes = {{1, 1, 1}, {2, 1, 2}, {1, 2, 2}, {3, 3, 3}, {2, 7, 7}, {7, 2, 7}, {1, 12, 10}, {12, 12, 10}};
        for (int[] size : sizes) {
            Twins t = new Twins();
            t.due(1, 0, 12, 0);
            for (int y = 0; y < 12; y++) {
                t.due(0, 2, 0, y, 0, 12);
                t.due(0, 2, 1, y, 0, 12);
            }
            t.due(0, 4, size[0], size[1], 7, 0);
            t.same(5);
            rip(t, 1, 0, 50);
            ripped(t, 5, size[2]);
        }
    }

    // "or RIPS was made ANEW 4 times"; "RIPS is made ANEW (as often as by 100)"
    private static void ripFourTimes() {
        Twins t = log();
        t.due(2, 5);
        t.due(1, 100, 10, 10, 10);
        rip(t, 1, 0, 20);
        t.due(1, 100, 10, 10, 10);
        rip(t, 1, 0, 30);
        bad("rip", t.first().rip(0, 40));
        t.due(0, 100, 10, 10, 10);
        bad("rip", t.first().rip(0, 40));
        ripped(t, 3, 5);
        Check.due("whole(0)", t.first().whole(0), 4);
    }

    /** A plan of RIPS with pieces of 3, 2 and 1 steps along x, one of each of the PIECES 0, 1, 2. */
    private static Twins planned() {
        Twins t = new Twins();
        t.due(1, 100, 10, 60, 10);
        for (int k = 0; k < 3; k++) {
            t.due(k, 102, 10, 30 - 10 * k, 30 - 10 * k, 5);
            t.due(1, 103, k, 0, k);
            t.due(1, 101, 0, k, k == 0 ? 0 : k == 1 ? 30 : 50, 0, 30 - 10 * k, 10);
        }
        t.due(3, 108, 0, 2);
        for (int k = 0; k < 3; k++) {
            t.due(3 - k, 111, k, 2);
            t.due(k, 111, k, 4);
        }
        return t;
    }

    private static void fingers(Twins t, int want, int least) {
        Check.due("fingers", t.first().fingers(least), want);
        Check.due("fingers", t.second().fingers(least), want);
    }

    // "BAD: there is no plan, or least is below 0."
    private static void fingersAsked() {
        Twins t = new Twins();
        bad("fingers", t.first().fingers(0));
        t.due(0, 108, 0, 2);
        fingers(t, 0, 0);
        bad("fingers", t.first().fingers(-1));
        bad("fingers", t.first().fingers(-2147483648));
        t.due(1, 106, 5);
        bad("fingers", t.first().fingers(0));
        t.due(1, 109, 1);
        fingers(t, 0, 0);
        t.due(0, 205);
        t.thing(207, 0);
        t.due(0, 201, 10, 0);
    }

    // "pieces of the plan of RIPS, one by one from piece 0 on, whose steps along x are at least as many as told"
    private static void fingersLeast() {
        int[][] told = {{0, 3}, {1, 3}, {2, 2}, {3, 1}, {4, 0}, {2147483647, 0}};
        for (int[] v : told) {
            Twins t = planned();
            t.due(0, 205);
            fingers(t, v[1], v[0]);
            t.same(208, 0);
            if (v[1] > 0) {
                t.state(208, 0);
            }
            t.due(0, 205);
            t.due(new int[] {0, 3, 5, 6}[v[1]], 208, 2);
            t.thing(207, v[1]);
            t.due(v[1], 201, 10, 0);
        }
        // "10 for each of these steps as its length", whatever STEP FINGERS has.
        Twins t = planned();
        t.due(1, 200, 3, 1);
        fingers(t, 3, 0);
        t.due(0, 205);
        t.due(10 + 6 + 3, 208, 2);
    }

    // "up to the first one that FINGERS refuses (by throwing)"
    private static void fingersRefused() {
        Twins t = planned();
        for (int i = 0; i < 22; i++) {
            t.due(i, 201, 10, 0);
        }
        fingers(t, 2, 0);
        fingers(t, 0, 0);
        fingers(t, 0, 3);
        fingers(t, 0, 4);
        t.due(0, 205);
        t.due(22 + 3 + 2, 208, 2);
        t.state(201, 10, 0);
        // One of more than 60 steps stops it, though the next one would be taken: that of 30 comes ahead of that of 20.
        Twins s = new Twins();
        s.due(1, 100, 20, 70, 10);
        s.due(0, 102, 10, 70, 70, 5);
        s.due(1, 102, 10, 10, 60, 4);
        s.due(1, 101, 0, 0, 60, 10, 10, 10);
        s.due(2, 108, 0, 2);
        s.due(7, 111, 0, 2);
        s.due(6, 111, 1, 2);
        s.due(1, 200, 1, 1);
        fingers(s, 0, 0);
        s.due(0, 205);
        s.thing(207, 0);
        s.due(0, 201, 60, 0);
        s.due(1, 200, 2, 1);
        fingers(s, 2, 0);
        s.due(0, 205);
        s.due(35 + 30, 208, 2);
    }

    // "and its PIECE of RIPS as its GROUP"
    private static void fingersGroups() {
        for (int alone = 0; alone < 4; alone++) {
            Twins t = planned();
            fingers(t, 3, 0);
            t.due(1, 202, 40, 5);
            t.due(1, 204, alone, 1);
            // A product of 4 steps is joined of 3 and 2 (groups 0 and 1).
            t.due(alone < 2 ? 0 : 1, 205);
        }
    }

    /** A sheet cut by so many cuts of a length: parts of 1 by that height. */
    private static void cuts(Twins t, int cuts, int length) {
        t.due(1, 500, 0, 1, 1);
        t.due(0, 501, cuts + 1, length, 1, 1);
        t.due(0, 502, 1, length, 50, 0);
        t.due(1, 505);
        t.due(cuts * length, 506, 0, 5);
    }

    private static void hours(Twins t, int want, int job, int kind) {
        Check.due("hours", t.first().hours(job, kind), want);
        Check.due("hours", t.second().hours(job, kind), want);
    }

    // "BAD: SHEETS were not RUN, or PLANS refuse the STEP."
    private static void hoursAsked() {
        Twins t = new Twins();
        t.due(0, 703, 9, 1);
        t.due(0, 701, 0);
        bad("hours", t.first().hours(0, 0));
        t.due(0, 505);
        hours(t, 0, 0, 0);
        t.due(0, 501, 1, 1, 1, 1);
        bad("hours", t.first().hours(0, 0));
        t.due(0, 505);
        hours(t, 1, 0, 0);
        t.due(0, 502, 1, 1, 1, 0);
        bad("hours", t.first().hours(0, 0));
        t.due(1, 505);
        t.due(1, 503, 0, 1);
        bad("hours", t.first().hours(0, 0));
        t.due(1, 505);
        hours(t, 2, 0, 0);
    }

    // "MINUTES of all cut sheets .. by 60, upwards, but 1 at least"; "without WAIT"
    private static void hoursUpwards() {
        int[][] told = {{0, 1, 1}, {1, 1, 1}, {5, 11, 1}, {10, 6, 1}, {15, 4, 1}, {5, 12, 1}, {9, 7, 2}, {11, 11, 3}, {8, 15, 2}, {15, 8, 2},
            {11, 16, 3}, {12, 15, 3}, {13, 14, 4}, {15, 16, 4}, {14, 13, 4}};
        for (int[] v : told) {
            Twins t = new Twins();
            cuts(t, v[0], v[1]);
            t.due(0, 703, 0, 1);
            t.due(0, 701, 2);
            hours(t, 0, 0, 2);
            t.due(v[2], 711, 0);
            hours(t, 1, 0, 2);
            t.due(2 * v[2], 711, 0);
        }
        // Of two sheets together: 60 and 1.
        Twins t = new Twins();
        t.due(1, 500, 0, 1, 1);
        t.due(0, 501, 6, 12, 1, 1);
        t.due(1, 501, 2, 1, 10000, 1);
        t.due(0, 502, 1, 12, 50, 0);
        t.due(1, 502, 1, 1, 2, 0);
        t.due(2, 505);
        t.due(60, 506, 0, 5);
        t.due(1, 506, 1, 5);
        t.due(0, 703, 0, 1);
        t.due(0, 701, 2);
        hours(t, 0, 0, 2);
        t.due(2, 711, 0);
    }

    // "PLANS refuse the STEP": no such job, another kind, or the job has 4.
    private static void hoursRefused() {
        Twins t = new Twins();
        cuts(t, 5, 12);
        bad("hours", t.first().hours(0, 0));
        t.due(0, 703, 9, 1);
        t.due(0, 701, 0);
        t.due(0, 706, 5);
        bad("hours", t.first().hours(1, 0));
        bad("hours", t.first().hours(-1, 0));
        bad("hours", t.first().hours(0, -1));
        bad("hours", t.first().hours(0, 4));
        t.due(0, 712, 0);
        hours(t, 0, 0, 0);
        t.state(712, 0);
        t.due(-1, 708, 0, 0);
        hours(t, 1, 0, 3);
        hours(t, 2, 0, 1);
        hours(t, 3, 0, 0);
        bad("hours", t.first().hours(0, 0));
        bad("hours", t.first().hours(0, 4));
        t.due(1, 703, 9, 1);
        hours(t, 4, 1, 0);
    }

    private static void passes(Twins t, int want, int piece, int tool, int job, int kind) {
        Check.due("passes", t.first().passes(piece, tool, job, kind), want);
        Check.due("passes", t.second().passes(piece, tool, job, kind), want);
    }

    // "BAD: no such piece, tool, or PLANS refuse the STEP."
    private static void passesAsked() {
        Twins t = new Twins();
        t.due(0, 703, 0, 1);
        t.due(0, 701, 0);
        bad("passes", t.first().passes(0, 0, 0, 0));
        t.due(0, 301, 50);
        t.due(1, 302, 5, 0);
        t.due(0, 304);
        bad("passes", t.first().passes(0, 0, 0, 0));
        t.due(0, 307, 0);
        bad("passes", t.first().passes(1, 0, 0, 0));
        bad("passes", t.first().passes(-1, 0, 0, 0));
        bad("passes", t.first().passes(0, 1, 0, 0));
        bad("passes", t.first().passes(0, -1, 0, 0));
        bad("passes", t.first().passes(0, 0, 1, 0));
        bad("passes", t.first().passes(0, 0, -1, 0));
        bad("passes", t.first().passes(0, 0, 0, -1));
        bad("passes", t.first().passes(0, 0, 0, 4));
        t.due(0, 711, 0);
        for (int i = 0; i < 4; i++) {
            passes(t, i, 0, 0, 0, 0);
            t.due(6 * (i + 1), 711, 0);
        }
        bad("passes", t.first().passes(0, 0, 0, 0));
        t.due(24, 711, 0);
    }

    // "so with PASSES of a TURNED piece and tool, by depth 10 and skin 1 (1 at least, 100 at most)"
    private static void passesLeast() {
        // BLANK is the first radius and 3; WANTED at the end is the second one and 1.
        int[][] told = {{0, 0, 1}, {1, 0, 1}, {8, 0, 1}, {9, 0, 2}, {18, 0, 2}, {19, 0, 3}, {5, 5, 1}, {108, 100, 1}, {109, 100, 2},
            {500, 0, 51}, {498, 0, 50}, {499, 0, 51}};
        for (int[] v : told) {
            Twins t = new Twins();
            t.due(0, 703, 0, 1);
            t.due(0, 701, 3);
            t.due(0, 301, v[0]);
            t.due(1, 302, 1, v[1]);
            t.due(0, 304);
            t.due(0, 307, 0);
            t.due(v[2], 310, 0, 0, 10, 1);
            passes(t, 0, 0, 0, 0, 3);
            t.due(v[2], 711, 0);
        }
        // The piece and the tool that are told, which have not the same numbers.
        Twins s = new Twins();
        s.due(0, 703, 0, 1);
        s.due(0, 701, 3);
        for (int p = 0; p < 2; p++) {
            s.due(0, 301, 100);
            s.due(1, 302, 1, 100);
            s.due(2, 302, 2, 50 * p);
            s.due(3, 302, 3, 100);
            s.due(p, 304);
            s.due(p, 307, p);
        }
        int[][] hours = {{0, 0, 11}, {0, 1, 1}, {1, 0, 6}, {1, 1, 1}};
        int sum = 0;
        for (int k = 0; k < 4; k++) {
            passes(s, k, hours[k][0], hours[k][1], 0, 3);
            sum += hours[k][2];
            s.due(sum, 711, 0);
        }
        // Where nothing is cut it is an hour all the same.
        Twins t = new Twins();
        t.due(0, 703, 0, 1);
        t.due(0, 701, 3);
        t.due(0, 301, 0);
        t.due(1, 302, 1, 500);
        t.due(0, 304);
        t.due(0, 307, 12);
        t.due(1, 310, 0, 0, 10, 1);
        passes(t, 0, 0, 0, 0, 3);
        t.due(1, 711, 0);
    }

    private static void route(Twins t, int want, int sheet, int depth) {
        Check.due("route", t.first().route(sheet, depth), want);
        Check.due("route", t.second().route(sheet, depth), want);
    }

    /** A sheet with parts of a width and height side by side along x, and one row of them. */
    private static Twins sheet(int width, int height, int partWidth, int count) {
        Twins t = new Twins();
        t.due(0, 501, width, height, 1, 1);
        t.due(0, 502, partWidth, height, count, 0);
        t.due(1, 505);
        t.due(Math.min(count, width / partWidth), 506, 0, 1);
        return t;
    }

    // "BAD: SHEETS were not RUN, there is no such cut sheet, or depth is not 0 .. 99."
    private static void routeAsked() {
        Twins t = new Twins();
        bad("route", t.first().route(0, 5));
        t.due(0, 505);
        bad("route", t.first().route(0, 5));
        t.due(0, 501, 4, 2, 1, 2);
        t.due(0, 502, 2, 2, 3, 0);
        bad("route", t.first().route(0, 5));
        t.due(2, 505);
        for (int[] v : new int[][] {{-1, 5}, {2, 5}, {2147483647, 5}, {0, -1}, {0, 100}, {2, 100}, {0, 2147483647}}) {
            bad("route", t.first().route(v[0], v[1]));
        }
        Check.due("whole(1)", t.first().whole(1), 0);
        t.due(-1, 605);
        route(t, 1, 1, 0);
        route(t, 2, 0, 99);
        t.due(12, 605);
        t.due(3, 503, 0, 3);
        bad("route", t.first().route(0, 5));
        t.due(-1, 605);
        Check.due("whole(1)", t.first().whole(1), 3);
    }

    // "G0X, x, Y, y, ;G1Z, the depth, ;G1X, x and width less 1, ;G0Z100; (numbers with as few digits as can be)"
    private static void routeText() {
        for (int depth : new int[] {0, 1, 9, 10, 50, 99}) {
            Twins t = new Twins();
            t.due(0, 501, 16, 16, 1, 1);
            t.due(0, 502, 5, 4, 12, 0);
            t.due(1, 505);
            t.due(12, 506, 0, 1);
            route(t, written(t, depth), 0, depth);
        }
        Twins t = sheet(15, 2, 5, 3);
        route(t, 3, 0, 7);
        t.due(12, 605);
        t.due(0, 606);
        for (int x = 0; x < 20; x++) {
            t.due(x < 15 ? 7 : 100, 608, x, 0, 0);
        }
        t.due(100, 608, 0, 1, 0);
        // 100 - 7 cells at the begin of each part, and four more steps along it; none of the sheet's 15 is left out.
        t.due(3 * (93 + 4), 607, 5);
        t.due(14, 607, 2);
        t.due(100, 607, 4);
        // A part of one cell goes nowhere along x.
        Twins s = sheet(1, 1, 1, 1);
        route(s, 1, 0, 99);
        s.due(4, 605);
        s.due(0, 606);
        s.due(1, 607, 5);
    }

    /** How many parts of the cut sheet 0 fit into a text of 240 signs. */
    private static int written(Twins t, int depth) {
        int length = 0;
        int parts = 0;
        for (int k = 0; k < 12; k++) {
            long x = Check.act(t.first(), 507, 0, k, 1);
            long y = Check.act(t.first(), 507, 0, k, 2);
            long last = x + Check.act(t.first(), 507, 0, k, 3) - 1;
            length += ("G0X" + x + "Y" + y + ";G1Z" + depth + ";G1X" + last + ";G0Z100;").length();
            parts += length <= 240 ? 1 : 0;
        }
        return parts;
    }

    // "whose x and width together are not above SIDE of the ROUTER, and y below it"
    private static void routeSide() {
        // Parts at x 0, 5 and 10 that end at 5, 10 and 15.
        int[][] told = {{4, 0}, {5, 1}, {9, 1}, {10, 2}, {14, 2}, {15, 3}, {16, 3}, {20, 3}};
        for (int[] v : told) {
            Twins t = sheet(15, 2, 5, 3);
            t.due(1, 600, v[0]);
            route(t, v[1], 0, 3);
            Check.due("whole(1)", t.first().whole(1), v[1]);
            t.due(v[1] == 0 ? -1 : 4 * v[1], 605);
        }
        // Parts at y 0, 5 and 10: they may end below the grid, but not begin there.
        int[][] downward = {{5, 1}, {6, 2}, {10, 2}, {11, 3}, {20, 3}};
        for (int[] v : downward) {
            Twins t = new Twins();
            t.due(0, 501, 2, 15, 1, 1);
            t.due(0, 502, 2, 5, 3, 0);
            t.due(1, 505);
            t.due(3, 506, 0, 1);
            t.due(1, 600, v[0]);
            route(t, v[1], 0, 3);
            t.due(4 * v[1], 605);
        }
        // One that does not fit is left out, those behind it are written all the same.
        Twins t = new Twins();
        t.due(0, 501, 5, 16, 1, 1);
        t.due(0, 502, 2, 8, 2, 0);
        t.due(1, 502, 3, 16, 1, 0);
        t.due(1, 505);
        int[][] at = {{0, 0}, {0, 8}, {2, 0}};
        for (int k = 0; k < 3; k++) {
            t.due(at[k][0], 507, 0, k, 1);
            t.due(at[k][1], 507, 0, k, 2);
        }
        t.due(1, 600, 6);
        route(t, 2, 0, 3);
        t.due(8, 605);
        t.due(0, 606);
        for (int x = 0; x < 6; x++) {
            t.due(x < 5 ? 3 : 100, 608, x, 0, 0);
        }
        Check.due("whole(1)", t.first().whole(1), 2);
    }

    // "up to the first sign that has no room (nothing is written behind that)"; "how many parts were written whole"
    private static void routeRoom() {
        // A text of a part at 0, 0 of width 5, depth 7: 24 signs.
        String part = "G0X0Y0;G1Z7;G1X4;G0Z100;";
        for (int room = 0; room <= 2 * part.length() + 1; room++) {
            Twins t = sheet(5, 2, 5, 1);
            t.write(604, " ".repeat(240 - room));
            route(t, room < part.length() ? 0 : 1, 0, 7);
            route(t, room < 2 * part.length() ? 0 : 1, 0, 7);
            Check.due("whole(1)", t.first().whole(1), room / part.length());
            t.due(room == 2 * part.length() + 1 ? 1 : 0, 604, ' ');
        }
        Twins t = sheet(15, 2, 5, 3);
        t.write(604, "T0;".repeat(63));
        route(t, 2, 0, 7);
        t.due(-1 - 32 * 3, 605);
        route(t, 3, 0, 7);
        t.due(12, 605);
        Check.due("whole(1)", t.first().whole(1), 5);
    }

    // "are written behind its text"
    private static void routeBehindText() {
        Twins t = sheet(5, 2, 5, 1);
        t.write(604, "T2; ");
        route(t, 1, 0, 98);
        t.write(604, "T3;");
        t.due(6, 605);
        t.due(0, 606);
        t.due(20 + 2 + 4 + 2, 607, 0);
        t.write(604, "T");
        route(t, 1, 0, 98);
        t.due(-2, 605);
    }

    private static void facts(Twins t, int want) {
        Check.due("facts", t.first().facts(), want);
        Check.due("facts", t.second().facts(), want);
    }

    // "each is told if it can be asked without throwing, ..; else it is forgotten"
    private static void factsNone() {
        Twins t = new Twins();
        for (char c = 'a'; c <= 'f'; c++) {
            t.due(0, 803, c, 7, 1);
        }
        facts(t, 0);
        for (char c = 'a'; c <= 'e'; c++) {
            t.due(0, 804, c);
        }
        t.due(1, 804, 'f');
        int[] tells = {505, 0, 205, 108, 5};
        for (int i = 0; i < 5; i++) {
            Twins s = new Twins();
            for (char c = 'a'; c <= 'e'; c++) {
                s.due(0, 803, c, 7, 1);
            }
            if (i == 1) {
                s.due(0, 703, 0, 0);
                s.due(0, 706, 1);
            } else {
                s.due(0, tells[i], 0, 1);
            }
            facts(s, 1);
            for (char c = 'a'; c <= 'e'; c++) {
                s.due(c == 'a' + i ? 1 : 0, 804, c);
            }
        }
    }

    // "a CENTS of all cut sheets by 100, b the PLAN's COST by 1, c what the line of FINGERS is worth by 100, d what the plan of
    // RIPS is worth by 100, e what SAWN boards are worth together by 100"
    private static void factsNumbers() {
        Twins t = new Twins();
        t.due(0, 501, 1, 1, 1237, 2);
        t.due(0, 502, 1, 1, 2, 0);
        t.due(2, 505);
        t.due(0, 703, 1, 7);
        t.due(0, 701, 0);
        t.due(0, 705, 0, 0, 12, 0);
        t.due(0, 706, 1);
        t.due(0, 201, 30, 0);
        t.due(1, 202, 10, 111);
        t.due(3, 205);
        t.due(0, 102, 100, 240, 240, 3);
        t.due(1, 108, 0, 1);
        t.due(0, 4, 1, 1, 9, 1);
        t.due(36, 5);
        facts(t, 5);
        t.read(801, "a;b;c;d;e;", 5);
        int[][] want = {{1237, 50}, {77, 1}, {333, 100}, {18, 25}, {81, 25}};
        for (int k = 0; k < 5; k++) {
            t.due(want[k][0], 807, k, 0);
            t.due(want[k][1], 807, k, 1);
        }
        facts(t, 5);
    }

    // "its number (ahead of by 100) is from - 1,000,000 to 1,000,000"
    private static void factsBeyond() {
        for (int more = 0; more < 2; more++) {
            Twins c = new Twins();
            c.due(0, 201, 100 + 10 * more, 0);
            c.due(1, 202, 10, 100000);
            c.due(10 + more, 205);
            facts(c, 1 - more);
            c.due(1 - more, 804, 'c');
            Twins d = new Twins();
            d.due(1, 100, 10, 100 + 10 * more, 10);
            d.due(0, 102, 10, 10, 240, 100000);
            d.due(1, 108, 0, 1);
            facts(d, 1 - more);
            d.due(1 - more, 804, 'd');
            Twins e = new Twins();
            e.due(1, 0, 20, 0);
            e.due(0, 2, 0, 0, 0, 10 + more);
            e.due(0, 2, 1, 0, 0, 10 + more);
            e.due(0, 4, 1, 1, 100000, 0);
            e.due(10 + more, 5);
            facts(e, 1 - more);
            e.due(1 - more, 804, 'e');
            // Five jobs that end at 2000 by 100 are just a million; a sixth job of an hour by 1 is one more.
            Twins b = new Twins();
            for (int k = 0; k < 5; k++) {
                b.due(k, 701, 0);
                b.due(1, 702, k, 0, 1000);
                b.due(2, 702, k, 1000, 1999);
                b.due(k, 703, 0, 100);
                b.due(k, 705, k, 0, 1, 0);
            }
            if (more == 1) {
                b.due(5, 701, 1);
                b.due(5, 703, 0, 1);
                b.due(5, 705, 5, 1, 1, 0);
            }
            b.same(706, 2000);
            b.due(1000000 + more, 710, 0);
            facts(b, 1 - more);
            b.due(1 - more, 804, 'b');
        }
        Twins d = new Twins();
        d.due(1, 100, 10, 100, 10);
        d.due(0, 102, 10, 100, 100, 100000);
        d.due(1, 108, 0, 1);
        facts(d, 1);
        d.read(801, "d;", 1);
        d.due(1000000, 806);
    }

    private static void factsForgotten() {
        Twins t = new Twins();
        t.due(0, 505);
        t.due(0, 5);
        t.due(0, 108, 0, 1);
        t.due(0, 205);
        facts(t, 4);
        t.due(0, 501, 1, 1, 1, 1);
        facts(t, 3);
        t.due(0, 804, 'a');
        t.due(0, 2, 0, 0, 0, 0);
        facts(t, 2);
        t.due(1, 107, 5);
        facts(t, 1);
        t.due(0, 804, 'd');
        t.due(1, 203, 5, 6);
        facts(t, 0);
        t.due(0, 804, 'c');
    }

    private static void book(Twins t, int want, int offer, int day) {
        Check.due("book", t.first().book(offer, day), want);
        Check.due("book", t.second().book(offer, day), want);
    }

    private static Twins offered(String text, int until) {
        Twins t = new Twins();
        t.read(801, text, text.split(";").length);
        t.due(0, 811, until);
        return t;
    }

    // "BAD: the OFFER can't be asked at that day"
    private static void bookAsked() {
        Twins t = new Twins();
        bad("book", t.first().book(0, 0));
        t = offered("7;", 50);
        bad("book", t.first().book(1, 0));
        bad("book", t.first().book(-1, 0));
        bad("book", t.first().book(0, -1));
        bad("book", t.first().book(0, 51));
        bad("book", t.first().book(0, 10001));
        Check.due("whole(2)", t.first().whole(2), 0);
        t.thing(914, 0);
        book(t, 1, 0, 50);
        book(t, 2, 0, 0);
        t.due(1400, 915, 0, 3599);
        t.due(700, 915, 0, 49);
        Check.due("whole(2)", t.first().whole(2), 2);
        t.due(2, 912, 5);
    }

    // "if they are not beyond 1,000,000,000 (without sign)"
    private static void bookBeyond() {
        String[] texts = {"50000 200*;", "50000 200*1 99/+;", "0 50000 200*-;", "0 50000 200*-1 99/-;", "0;"};
        long[] cents = {1000000000L, 1000000001L, -1000000000L, -1000000001L, 0};
        for (int i = 0; i < texts.length; i++) {
            Twins t = offered(texts[i], 10);
            t.due(cents[i], 812, 0, 0);
            if (i % 2 == 1) {
                bad("book", t.first().book(0, 0));
                t.thing(914, 0);
                Check.due("whole(2)", t.first().whole(2), 0);
            } else {
                book(t, 1, 0, 0);
                t.due(cents[i], 915, 0, 0);
                t.due(-cents[i], 915, 1, 0);
                Check.due("whole(2)", t.first().whole(2), 1);
            }
            t.due(i % 2 == 1 ? 0 : 1, 912, 0);
        }
    }

    // "with a ROW of account 0 and the CENTS, a ROW of account 1 and the CENTS with the other sign, and CLOSED"; "(call 812:
    // without currency)"
    private static void bookRows() {
        Twins t = offered("12 5/;", 100);
        t.due(1, 809, 0, 7, 2);
        book(t, 1, 0, 29);
        t.due(240, 915, 0, 29);
        t.due(-240, 915, 1, 29);
        t.due(0, 915, 0, 28);
        for (int account = 2; account < 10; account++) {
            t.due(0, 915, account, 3599);
        }
        t.state(914, 0);
        t.state(913, 0, 0, 0);
        t.due(2, 917, 1, 30);
        t.due(0, 915, 0, 30);
        t.state(917, 1, 30);
        Check.due("whole(2)", t.first().whole(2), 1);
    }

    // "or SHOP refuses": a day that SHOP has not, or no room.
    private static void bookRefused() {
        Twins t = offered("7;", 10000);
        bad("book", t.first().book(0, 3600));
        bad("book", t.first().book(0, 10000));
        t.thing(914, 0);
        book(t, 1, 0, 3599);
        for (int i = 1; i < 60; i++) {
            t.due(i, 912, 0);
        }
        bad("book", t.first().book(0, 0));
        bad("book", t.first().book(0, 3599));
        t.due(700, 915, 0, 3599);
        Check.due("whole(2)", t.first().whole(2), 1);
        t.due(1, 900);
        book(t, 1, 0, 0);
        Check.due("whole(2)", t.first().whole(2), 2);
    }

    // "(it stays open if that is refused)"; "(also 0 where it is not CLOSED)"
    private static void bookMonth() {
        Twins t = offered("7;", 10000);
        t.due(1, 916, 1);
        book(t, -1, 0, 59);
        book(t, -1, 0, 0);
        t.due(0, 915, 0, 3599);
        Check.due("whole(2)", t.first().whole(2), 0);
        t.due(0, 914, 0);
        t.due(3, 913, 0, 5, 1);
        t.due(3, 913, 1, 5, 0);
        book(t, 1, 0, 60);
        t.due(3, 912, 60);
        t.thing(914, 4);
        t.state(914, 2);
        Check.due("whole(2)", t.first().whole(2), 1);
        for (int i = 4; i < 60; i++) {
            book(t, i - 2, 0, 60);
        }
        bad("book", t.first().book(0, 60));
        Check.due("whole(2)", t.first().whole(2), 57);
    }

    private static void stock(Twins t, int want, int on) {
        Check.due("stock", t.first().stock(on), want);
        Check.due("stock", t.second().stock(on), want);
    }

    // "BAD: SHEETS were not RUN"
    private static void stockAsked() {
        Twins t = new Twins();
        bad("stock", t.first().stock(0));
        t.due(0, 501, 3, 1, 1, 2);
        t.due(0, 502, 1, 1, 5, 0);
        bad("stock", t.first().stock(0));
        t.due(2, 505);
        stock(t, 1, 7);
        t.due(0, 902, 5);
        t.due(1, 907, 0);
        t.due(5, 905, 0, 9, 0, 7);
        t.due(0, 905, 0, 9, 0, 6);
        for (int kind = 1; kind < 4; kind++) {
            t.due(0, 905, 0, 9, kind, 7);
        }
        t.due(5, 503, 0, 1);
        bad("stock", t.first().stock(0));
        Check.due("whole(3)", t.first().whole(3), 1);
        t.due(1, 505);
        stock(t, 2, -2147483648);
        t.due(1, 902, 5);
        t.due(1, 905, 1, 9, 0, -2147483648);
        t.due(6, 905, 1, 9, 0, 2147483647);
        // Nothing is TAKEN: 0 is told all the same.
        t.due(1, 503, 0, 0);
        t.due(0, 505);
        stock(t, 3, 0);
        t.due(2, 902, 5);
        t.due(3, 907, 2);
        t.due(6, 905, 2, 9, 0, 2147483647);
    }

    // "its NUMBER is 1, 2, .. by calls of stock() that told one"; "or teller 5 told that NUMBER before"
    private static void stockNumbers() {
        Twins t = new Twins();
        t.due(0, 505);
        t.due(1, 901, 4, 1, 0, 0, 0, 0);
        t.due(1, 901, 5, 2, 0, 0, 0, 0);
        stock(t, 1, 0);
        bad("stock", t.first().stock(0));
        bad("stock", t.first().stock(5));
        Check.due("whole(3)", t.first().whole(3), 1);
        t.due(1, 900);
        stock(t, 2, 0);
        stock(t, 3, 0);
        t.due(0, 902, 5);
        t.due(2, 908, 0, 0, 0, 1);
        t.due(3, 908, 0, 0, 1, 1);
        Check.due("whole(3)", t.first().whole(3), 3);
        t.due(0, 901, 5, 3, 0, 0, 0, 0);
        t.due(1, 901, 5, 4, 0, 0, 0, 0);
        bad("stock", t.first().stock(0));
    }

    // "SHOP refuses": there are 300 TELLINGS.
    private static void stockRefused() {
        Twins t = new Twins();
        t.due(0, 505);
        for (int i = 0; i < 299; i++) {
            t.due(1, 901, i % 5, i, 0, 0, 1, 0);
        }
        stock(t, 1, 0);
        bad("stock", t.first().stock(0));
        t.state(901, 5, 2, 0, 0, 0, 0);
        Check.due("whole(3)", t.first().whole(3), 1);
        t.due(1, 900);
        stock(t, 2, 0);
    }

    // "BAD: another what."
    private static void wholes() {
        Twins t = new Twins();
        for (int what : new int[] {-1, 4, 5, -2147483648, 2147483647}) {
            bad("whole", t.first().whole(what));
        }
        for (int what = 0; what < 4; what++) {
            Check.due("whole", t.first().whole(what), 0);
        }
        Twins s = sheet(15, 2, 5, 3);
        s.due(1, 200, 1, 1);
        route(s, 3, 0, 5);
        stock(s, 1, 0);
        stock(s, 2, 0);
        s.due(0, 811, 5);
        for (int i = 1; i <= 4; i++) {
            book(s, i, 0, 5);
        }
        int[] want = {1, 3, 4, 2};
        for (int what = 0; what < 4; what++) {
            Check.due("whole", s.first().whole(what), want[what]);
            Check.due("whole", s.second().whole(what), want[what]);
        }
    }
}
