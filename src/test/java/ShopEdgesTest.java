/** SHOP: each sentence that names a boundary, its last value that is allowed and its first that is not. */
public final class ShopEdgesTest {
    private static final int COUNT = 0;
    private static final int PLACE = 1;
    private static final int MARK = 2;
    private static final int SETTLE = 3;
    private static final int LEAST = -2147483648;
    private static final int MOST = 2147483647;

    public static void main(String[] args) {
        atFirst();
        fourTimes();
        forgotten();
        tells();
        toldOnce();
        tellingsFull();
        sets();
        setsFull();
        setOrder();
        setLater();
        joins();
        equals();
        atAsked();
        onNotBehind();
        counts();
        places();
        placesJoined();
        marks();
        settled();
        settles();
        conflicts();
        conflictsSettled();
        markAsked();
        sinceAsked();
        batches();
        rights();
        seen();
        seenBatch();
        entries();
        entriesFull();
        rows();
        rowsFull();
        closes();
        closesByMonth();
        balances();
        months();
        reverses();
        reversesOnce();
        reversesFull();
        Check.end();
    }

    private static void looks(Twins t) {
        for (int set = 0; set < 3; set++) {
            t.same(907, set);
            t.same(906, set, 0);
            t.same(904, set, 0);
            for (int kind = 0; kind < 4; kind++) {
                t.same(905, set, 0, kind, MOST);
                t.same(905, set, 9, kind, 5);
                t.same(911, kind, set, 0, kind);
            }
            t.same(908, set, 0, 0, 1);
        }
        for (int account = 0; account < 10; account++) {
            t.same(915, account, 3599);
        }
        t.same(902, 0);
        t.same(912, 3599);
        t.same(914, 0);
    }

    private static void tell(Twins t, int teller, int number, int thing, int kind, int v, int on) {
        t.due(1, 901, teller, number, thing, kind, v, on);
    }

    private static void atFirst() {
        Twins t = new Twins();
        t.thing(903, 0, 0);
        t.thing(904, 0, 0);
        t.thing(905, 0, 0, 0, 0);
        t.thing(906, 0, 0);
        t.thing(907, 0);
        t.thing(908, 0, 0, 0, 0);
        t.thing(909, 0, 1);
        t.thing(911, 0, 0, 0, 0);
        t.thing(913, 0, 0, 0);
        t.thing(914, 0);
        t.due(0, 915, 0, MOST);
        t.thing(917, 1, 0);
        t.due(0, 902, 5);
        t.due(0, 907, 0);
        for (int person = 0; person < 4; person++) {
            for (int kind = 0; kind < 4; kind++) {
                t.state(911, person, 0, 0, kind);
            }
        }
        t.due(1, 916, 0);
        looks(t);
    }

    // "1; 0, and nothing, if it was made ANEW 4 times."
    private static void fourTimes() {
        Twins t = new Twins();
        for (int i = 0; i < 4; i++) {
            t.due(1, 900);
        }
        tell(t, 0, 1, 0, COUNT, 5, 0);
        t.due(0, 902, 0);
        t.due(0, 912, 5);
        t.due(1, 910, 0, 0, 1);
        t.due(0, 900);
        t.due(5, 905, 0, 0, COUNT, 0);
        t.due(5, 911, 0, 0, 0, COUNT);
        t.due(1, 912, 5);
        looks(t);
    }

    // "all that was told it is forgotten"
    private static void forgotten() {
        Twins t = new Twins();
        tell(t, 0, 1, 0, COUNT, 5, 0);
        t.due(0, 902, 0);
        t.due(1, 909, 0, 1);
        t.due(1, 910, 3, 3, 1);
        t.due(0, 912, 5);
        t.due(1, 913, 0, 0, 0);
        t.due(1, 914, 0);
        t.due(1, 916, 7);
        t.due(1, 900);
        t.thing(907, 0);
        t.thing(914, 0);
        t.thing(917, 1, 0);
        t.due(0, 915, 0, MOST);
        tell(t, 0, 1, 0, COUNT, 6, 0);
        t.due(0, 902, 0);
        t.due(6, 905, 0, 0, COUNT, 0);
        t.state(911, 3, 0, 0, 3);
        t.due(0, 909, 0, 0);
        t.due(0, 912, 5);
        t.due(0, 914, 0);
        t.due(1, 913, 0, 0, 0);
        t.due(1, 914, 0);
        t.due(1, 916, 0);
        looks(t);
        // Which set had a TELLING, and which NUMBER was REVERSED, is forgotten with them.
        Twins s = new Twins();
        tell(s, 0, 1, 0, COUNT, 5, 0);
        s.due(0, 902, 0);
        closed(s, 0, 5, 1);
        s.due(2, 917, 1, 5);
        s.due(1, 900);
        tell(s, 0, 1, 0, COUNT, 6, 0);
        s.due(0, 902, 1);
        s.due(1, 902, 0);
        s.due(0, 904, 0, 1);
        s.due(1, 903, 0, 1);
        s.due(6, 905, 0, 0, COUNT, 0);
        closed(s, 0, 5, 1);
        closed(s, 1, 5, 2);
        s.due(3, 917, 1, 5);
        s.due(4, 917, 2, 5);
        looks(s);
    }

    // "IndexOutOfBoundsException: no such teller, thing; IllegalArgumentException: another kind"
    private static void tells() {
        Twins t = new Twins();
        t.thing(901, -1, 1, 0, 0, 5, 0);
        t.thing(901, 6, 1, 0, 0, 5, 0);
        t.thing(901, 0, 1, -1, 0, 5, 0);
        t.thing(901, 0, 1, 10, 0, 5, 0);
        t.thing(901, 6, 1, 10, 4, 5, 0);
        t.thing(901, 0, 1, 10, 4, 5, 0);
        t.number(901, 0, 1, 0, -1, 5, 0);
        t.number(901, 0, 1, 0, 4, 5, 0);
        tell(t, 0, 1, 0, 0, LEAST, LEAST);
        tell(t, 5, 1, 9, 3, MOST, MOST);
        tell(t, 5, LEAST, 9, 0, 3, 0);
        tell(t, 5, MOST, 9, 0, 4, 0);
        t.due(0, 902, 0);
        t.due(1, 902, 5);
        t.due(1, 907, 0);
        t.due(3, 907, 1);
        t.due(LEAST, 905, 0, 0, 0, LEAST);
        t.due(7, 905, 1, 9, 0, 0);
        t.due(MOST, 905, 1, 9, 3, MOST);
        t.due(0, 905, 1, 9, 3, MOST - 1);
        looks(t);
    }

    // "0 if the teller told that NUMBER before (whatever it was, ..; nothing is changed)"; "(of a teller each once)"
    private static void toldOnce() {
        Twins t = new Twins();
        tell(t, 2, 7, 0, COUNT, 5, 0);
        t.due(0, 901, 2, 7, 0, COUNT, 5, 0);
        t.due(0, 901, 2, 7, 9, SETTLE, 9, 9);
        t.number(901, 2, 7, 0, 4, 5, 0);
        t.thing(901, 2, 7, 10, 0, 5, 0);
        tell(t, 3, 7, 0, COUNT, 6, 0);
        tell(t, 2, -7, 0, COUNT, 7, 0);
        t.due(0, 902, 2);
        t.due(2, 907, 0);
        t.due(12, 905, 0, 0, COUNT, 0);
        t.due(0, 905, 0, 9, SETTLE, 9);
        looks(t);
    }

    // "TELLINGS, 300 in all"; "also where there are 300"; "IllegalStateException: there are 300."
    private static void tellingsFull() {
        Twins t = new Twins();
        for (int i = 0; i < 299; i++) {
            tell(t, i % 6, i, i % 10, i % 4, i, i);
        }
        tell(t, 0, -1, 0, COUNT, 1, 0);
        t.state(901, 0, -2, 0, COUNT, 1, 0);
        t.state(901, 5, 6, 0, COUNT, 1, 0);
        t.due(0, 901, 0, -1, 0, COUNT, 1, 0);
        t.due(0, 901, 4, 298, 5, SETTLE, 1, 0);
        t.thing(901, 6, 300, 0, COUNT, 1, 0);
        t.thing(901, 0, -1, 10, COUNT, 1, 0);
        t.number(901, 0, -2, 0, 4, 1, 0);
        t.number(901, 0, -1, 0, -1, 1, 0);
        t.due(0, 902, 0);
        t.due(51, 907, 0);
        t.due(1, 902, 5);
        t.due(49, 907, 1);
        looks(t);
    }

    // "A new SET: which one it is. IndexOutOfBoundsException"
    private static void sets() {
        Twins t = new Twins();
        t.thing(902, -1);
        t.thing(902, 6);
        t.thing(907, 0);
        for (int teller = 0; teller < 6; teller++) {
            for (int i = 0; i <= teller; i++) {
                tell(t, teller, i, 0, COUNT, 1, 0);
            }
        }
        for (int teller = 0; teller < 6; teller++) {
            t.due(teller, 902, teller);
            t.due(teller + 1, 907, teller);
        }
        looks(t);
    }

    // "SETS 0 .. 7"; "IllegalStateException: there are 8."
    private static void setsFull() {
        Twins t = new Twins();
        tell(t, 1, 5, 0, COUNT, 1, 0);
        for (int i = 0; i < 8; i++) {
            t.thing(907, i);
            t.due(i, 902, i == 7 ? 1 : 0);
        }
        t.state(902, 1);
        t.thing(902, 6);
        t.thing(902, -1);
        t.thing(907, 8);
        t.thing(903, 0, 8);
        t.thing(903, 8, 0);
        t.due(1, 907, 7);
        for (int i = 0; i < 7; i++) {
            t.due(1, 903, i, 7);
            t.due(0, 903, i, 7);
            t.due(1, 904, i, 7);
        }
        looks(t);
    }

    // "A new one has all of one teller so far, by their NUMBERS"
    private static void setOrder() {
        Twins t = new Twins();
        int[] numbers = {5, -3, 9, 0, LEAST, 4, MOST, -2};
        for (int i = 0; i < numbers.length; i++) {
            tell(t, 2, numbers[i], 0, COUNT, 100 + i, 50 - i);
            tell(t, 3, i, 0, COUNT, 1, 0);
        }
        t.due(0, 902, 2);
        int[] sorted = {4, 1, 7, 3, 5, 0, 2, 6};
        for (int k = 0; k < sorted.length; k++) {
            t.due(2, 908, 0, 0, k, 0);
            t.due(numbers[sorted[k]], 908, 0, 0, k, 1);
            t.due(100 + sorted[k], 908, 0, 0, k, 2);
        }
        t.thing(908, 0, 0, 8, 0);
        looks(t);
    }

    // "(what that one tells later comes to it by join() alone)"
    private static void setLater() {
        Twins t = new Twins();
        t.due(0, 902, 2);
        tell(t, 2, 8, 0, COUNT, 5, 0);
        t.due(0, 907, 0);
        t.due(0, 905, 0, 0, COUNT, 0);
        t.due(1, 902, 2);
        tell(t, 2, 7, 0, COUNT, 6, 0);
        t.due(1, 907, 1);
        t.due(2, 902, 2);
        t.due(2, 907, 2);
        t.due(2, 903, 0, 2);
        t.due(11, 905, 0, 0, COUNT, 0);
        t.due(1, 903, 1, 2);
        // The one that it had comes first, then what came by join.
        t.due(8, 908, 1, 0, 0, 1);
        t.due(7, 908, 1, 0, 1, 1);
        t.due(7, 908, 0, 0, 0, 1);
        looks(t);
    }

    // "A SET gets all that another one has and it has not, in the order in which they came there: how many.
    // IndexOutOfBoundsException."
    private static void joins() {
        Twins t = new Twins();
        tell(t, 0, 1, 0, COUNT, 10, 0);
        tell(t, 1, 2, 0, COUNT, 20, 0);
        tell(t, 1, 1, 0, COUNT, 30, 0);
        tell(t, 2, 1, 0, COUNT, 40, 0);
        for (int set = 0; set < 3; set++) {
            t.due(set, 902, set);
        }
        t.thing(903, 0, 3);
        t.thing(903, 3, 0);
        t.thing(903, -1, 0);
        t.thing(903, 0, -1);
        t.due(0, 903, 0, 0);
        t.due(2, 903, 2, 1);
        t.due(1, 903, 1, 0);
        t.due(1, 903, 2, 1);
        t.due(3, 903, 0, 2);
        t.due(0, 903, 0, 2);
        int[][] order = {{10, 40, 30, 20}, {30, 20, 10}, {40, 30, 20, 10}};
        for (int set = 0; set < 3; set++) {
            t.due(order[set].length, 907, set);
            for (int k = 0; k < order[set].length; k++) {
                t.due(order[set][k], 908, set, 0, k, 2);
            }
        }
        looks(t);
    }

    // "Whether two SETS have the same TELLINGS. IndexOutOfBoundsException."
    private static void equals() {
        Twins t = new Twins();
        t.due(0, 902, 0);
        t.thing(904, 0, 1);
        t.thing(904, 1, 0);
        t.thing(904, -1, 0);
        t.thing(904, 0, -1);
        t.due(1, 904, 0, 0);
        t.due(1, 902, 1);
        t.due(1, 904, 0, 1);
        tell(t, 0, 1, 0, COUNT, 10, 0);
        tell(t, 1, 1, 0, COUNT, 10, 0);
        t.due(2, 902, 0);
        t.due(3, 902, 1);
        // As many, but others; in another order the same.
        t.due(0, 904, 2, 3);
        t.due(0, 904, 0, 2);
        t.due(0, 904, 2, 0);
        t.due(1, 903, 2, 3);
        t.due(0, 904, 2, 3);
        t.due(0, 904, 3, 2);
        t.due(1, 903, 3, 2);
        t.due(1, 904, 2, 3);
        t.thing(904, 4, 0);
        looks(t);
    }

    // "KNOWN at a time. IndexOutOfBoundsException; IllegalArgumentException: another kind."
    private static void atAsked() {
        Twins t = new Twins();
        t.thing(905, 0, 0, 0, 0);
        t.due(0, 902, 0);
        t.thing(905, 1, 0, 0, 0);
        t.thing(905, -1, 0, 0, 0);
        t.thing(905, 0, -1, 0, 0);
        t.thing(905, 0, 10, 0, 0);
        t.thing(905, 0, 10, 4, 0);
        t.thing(905, 1, 0, -1, 0);
        t.number(905, 0, 0, -1, 0);
        t.number(905, 0, 9, 4, 0);
        for (int kind = 0; kind < 4; kind++) {
            t.due(0, 905, 0, 0, kind, MOST);
            t.due(0, 905, 0, 9, kind, LEAST);
        }
        looks(t);
    }

    // "by its TELLINGS of the KIND whose ON is not behind it"
    private static void onNotBehind() {
        for (int kind = 0; kind < 4; kind++) {
            Twins t = new Twins();
            tell(t, 0, 1, 3, kind, 77, 10);
            t.due(0, 902, 0);
            t.due(0, 905, 0, 3, kind, 9);
            t.due(77, 905, 0, 3, kind, 10);
            t.due(77, 905, 0, 3, kind, 11);
            t.due(77, 905, 0, 3, kind, MOST);
            t.due(0, 905, 0, 3, kind, LEAST);
            t.due(0, 905, 0, 2, kind, MOST);
            t.due(0, 905, 0, 4, kind, MOST);
            for (int other = 0; other < 4; other++) {
                // A SETTLE alone settles the MARK that is not there.
                boolean tells = other == kind || kind == SETTLE && other == MARK;
                t.due(tells ? 77 : 0, 905, 0, 3, other, 10);
            }
            looks(t);
        }
    }

    // "COUNT: the sum of all values"
    private static void counts() {
        Twins t = new Twins();
        for (int i = 0; i < 10; i++) {
            tell(t, 0, i, 1, COUNT, i < 5 ? MOST : LEAST, i);
        }
        t.due(0, 902, 0);
        t.due(MOST, 905, 0, 1, COUNT, 0);
        t.due(5L * MOST, 905, 0, 1, COUNT, 4);
        t.due(-5, 905, 0, 1, COUNT, 9);
        t.due(4L * MOST, 905, 0, 1, COUNT, 3);
        looks(t);
    }

    // "PLACE: the value of the one with the greatest ON (of several the greatest teller, then the greatest NUMBER)"
    private static void places() {
        int[][][] told = {{{0, 1, 5}, {0, 2, 4}}, {{0, 1, 5}, {5, 9, 4}}, {{1, 1, 5}, {0, 2, 5}}, {{1, 2, 5}, {1, 1, 5}}, {{1, 2, 5}, {1, -9, 5}},
            {{5, LEAST, 5}, {0, MOST, 5}}, {{0, LEAST, MOST}, {5, MOST, MOST - 1}}};
        for (int kind : new int[] {PLACE, SETTLE}) {
            for (int[][] two : told) {
                for (int first = 0; first < 2; first++) {
                    Twins t = new Twins();
                    for (int i = 0; i < 2; i++) {
                        int which = (first + i) % 2;
                        tell(t, two[which][0], two[which][1], 0, kind, 70 + which, two[which][2]);
                    }
                    t.due(0, 902, two[first][0]);
                    t.due(1, 902, two[1 - first][0]);
                    t.same(903, 0, 1);
                    t.due(70, 905, 0, 0, kind, MOST);
                    looks(t);
                }
            }
        }
    }

    // Also in a set to which the lesser NUMBER came last.
    private static void placesJoined() {
        for (int kind : new int[] {PLACE, SETTLE}) {
            Twins t = new Twins();
            tell(t, 4, 9, 0, kind, 70, 5);
            t.due(0, 902, 4);
            tell(t, 4, 3, 0, kind, 71, 5);
            tell(t, 4, 20, 0, kind, 72, 4);
            t.due(1, 902, 4);
            t.due(2, 903, 0, 1);
            t.due(9, 908, 0, 0, 0, 1);
            t.due(3, 908, 0, 0, 1, 1);
            t.due(20, 908, 0, 0, 2, 1);
            t.due(70, 905, 0, 0, kind, 5);
            t.due(70, 905, 1, 0, kind, 5);
            t.due(72, 905, 0, 0, kind, 4);
            t.due(0, 905, 1, 0, kind, 3);
            looks(t);
        }
    }

    /** A set of teller 0 of MARKS and SETTLES of thing 0, told as kind, value, ON, .. */
    private static Twins marked(int... told) {
        Twins t = new Twins();
        for (int i = 0; i < told.length; i += 3) {
            tell(t, 0, i, 0, told[i], told[i + 1], told[i + 2]);
        }
        t.due(0, 902, 0);
        return t;
    }

    // "else the value that all MARKS have, if it is one; 0 if there is none, or they CONFLICT"
    private static void marks() {
        Twins t = marked(MARK, 5, 1, MARK, 5, 2, MARK, 6, 3, MARK, 5, 4);
        int[] want = {0, 5, 5, 0, 0, 0};
        for (int on = 0; on < 6; on++) {
            t.due(want[on], 905, 0, 0, MARK, on);
        }
        Twins s = marked(MARK, 0, 1, MARK, 7, 1);
        s.due(0, 905, 0, 0, MARK, 1);
        s.due(0, 906, 0, 0);
        Twins r = marked(MARK, -7, LEAST);
        r.due(-7, 905, 0, 0, MARK, LEAST);
        r.due(-1, 906, 0, 0);
        looks(t);
    }

    // "SETTLED (also without any MARK), the value of the latest SETTLE (as for PLACE) whose ON is not before any MARK's"
    private static void settled() {
        Twins t = marked(MARK, 5, 10, MARK, 6, 20, SETTLE, 7, 19, SETTLE, 8, 20, SETTLE, 9, 25, MARK, 4, 30);
        int[][] want = {{9, 0}, {10, 5}, {18, 5}, {19, 7}, {20, 8}, {24, 8}, {25, 9}, {29, 9}, {30, 0}, {99, 0}};
        for (int[] v : want) {
            t.due(v[1], 905, 0, 0, MARK, v[0]);
        }
        // Right at the MARK's ON it settles, one before it does not.
        marked(MARK, 5, 10, SETTLE, 7, 10).due(7, 905, 0, 0, MARK, 10);
        marked(MARK, 5, 10, SETTLE, 7, 9).due(5, 905, 0, 0, MARK, 10);
        marked(MARK, 5, 10, SETTLE, 7, 11).due(7, 905, 0, 0, MARK, 11);
        marked(MARK, 5, 10, SETTLE, 7, 11).due(5, 905, 0, 0, MARK, 10);
        marked(SETTLE, 7, 11).due(7, 905, 0, 0, MARK, 11);
        marked(SETTLE, 7, 11).due(0, 905, 0, 0, MARK, 10);
        // Of two that are as late the greater NUMBER, as for PLACE.
        marked(MARK, 5, 10, SETTLE, 7, 12, SETTLE, 8, 12, SETTLE, 9, 11).due(8, 905, 0, 0, MARK, 12);
        looks(t);
    }

    // "SETTLE: as for PLACE."
    private static void settles() {
        Twins t = marked(SETTLE, 7, 5, SETTLE, 8, 5, SETTLE, 9, 4, MARK, 3, 99);
        t.due(0, 905, 0, 0, SETTLE, 3);
        t.due(9, 905, 0, 0, SETTLE, 4);
        t.due(8, 905, 0, 0, SETTLE, 5);
        t.due(8, 905, 0, 0, SETTLE, MOST);
        t.due(3, 905, 0, 0, MARK, MOST);
        looks(t);
    }

    // "The k-th THING (by their numbers) whose MARKS CONFLICT in a SET at the greatest time; NONE if there are not so many.
    // IndexOutOfBoundsException; IllegalArgumentException: k is below 0."
    private static void conflicts() {
        Twins t = new Twins();
        int number = 0;
        for (int thing : new int[] {9, 0, 4}) {
            tell(t, 0, number++, thing, MARK, 1, MOST);
            tell(t, 0, number++, thing, MARK, 2, LEAST);
        }
        tell(t, 0, number++, 7, MARK, 2, 0);
        tell(t, 0, number++, 7, MARK, 2, 5);
        tell(t, 0, number++, 6, COUNT, 1, 0);
        tell(t, 0, number++, 6, COUNT, 2, 0);
        t.due(0, 902, 0);
        t.thing(906, 1, 0);
        t.thing(906, -1, 0);
        t.thing(906, 1, -1);
        t.number(906, 0, -1);
        t.number(906, 0, LEAST);
        t.due(0, 906, 0, 0);
        t.due(4, 906, 0, 1);
        t.due(9, 906, 0, 2);
        t.due(-1, 906, 0, 3);
        t.due(-1, 906, 0, MOST);
        looks(t);
    }

    // "some have unlike values, and it is not SETTLED"
    private static void conflictsSettled() {
        marked(MARK, 1, 5, MARK, 2, 6).due(0, 906, 0, 0);
        marked(MARK, 1, 5, MARK, 2, 6, SETTLE, 9, 5).due(0, 906, 0, 0);
        marked(MARK, 1, 5, MARK, 2, 6, SETTLE, 9, 6).due(-1, 906, 0, 0);
        marked(MARK, 1, 5, MARK, 2, 6, SETTLE, 9, 7).due(-1, 906, 0, 0);
        marked(MARK, 1, 5, MARK, 1, 6).due(-1, 906, 0, 0);
        marked(MARK, 1, 5).due(-1, 906, 0, 0);
        marked(SETTLE, 1, 5, SETTLE, 2, 5).due(-1, 906, 0, 0);
        marked().due(-1, 906, 0, 0);
        marked(MARK, 1, MOST, MARK, 2, 5, SETTLE, 9, MOST - 1).due(0, 906, 0, 0);
        marked(MARK, 1, MOST, MARK, 2, 5, SETTLE, 9, MOST).due(-1, 906, 0, 0);
    }

    // "How many TELLINGS a SET has. IndexOutOfBoundsException."
    private static void markAsked() {
        Twins t = new Twins();
        t.thing(907, 0);
        t.due(0, 902, 0);
        t.due(0, 907, 0);
        t.thing(907, 1);
        t.thing(907, -1);
        tell(t, 0, 1, 0, 0, 0, 0);
        t.due(0, 907, 0);
        t.due(1, 902, 0);
        t.due(1, 907, 1);
        looks(t);
    }

    // "IndexOutOfBoundsException: no such set, or there are not so many (of a mark and k of 0 and more);
    // IllegalArgumentException: mark or k is below 0, or another what."
    private static void sinceAsked() {
        Twins t = new Twins();
        for (int i = 0; i < 4; i++) {
            tell(t, 3, 10 + i, 0, COUNT, 100 + i, 0);
        }
        t.due(0, 902, 3);
        t.thing(908, 1, 0, 0, 0);
        t.thing(908, -1, 0, 0, 0);
        t.thing(908, 1, -1, -1, 5);
        for (int mark = 0; mark < 4; mark++) {
            for (int k = 0; k + mark < 4; k++) {
                t.due(3, 908, 0, mark, k, 0);
                t.due(10 + mark + k, 908, 0, mark, k, 1);
                t.due(100 + mark + k, 908, 0, mark, k, 2);
            }
            t.thing(908, 0, mark, 4 - mark, 0);
            t.thing(908, 0, mark, 4 - mark, 3);
        }
        t.thing(908, 0, 4, 0, 0);
        t.thing(908, 0, 5, 0, 0);
        t.thing(908, 0, MOST, MOST, 0);
        t.thing(908, 0, MOST, 1, 0);
        t.thing(908, 0, 1, MOST, 3);
        t.number(908, 0, -1, 0, 0);
        t.number(908, 0, 0, -1, 0);
        t.number(908, 0, -1, 99, 0);
        t.number(908, 0, 99, -1, 0);
        t.number(908, 0, -1, -1, 3);
        t.number(908, 0, 0, 0, 3);
        t.number(908, 0, 0, 0, -1);
        t.number(908, 0, 3, 0, 3);
        looks(t);
    }

    // "A BATCH of a SET begins (open = true) or ends: whether it did (one that is open goes on as it began).
    // IndexOutOfBoundsException."
    private static void batches() {
        Twins t = new Twins();
        t.due(0, 902, 0);
        t.thing(909, 1, 1);
        t.thing(909, -1, 0);
        t.thing(909, 1, 0);
        t.due(0, 909, 0, 0);
        t.due(1, 909, 0, -4);
        t.due(0, 909, 0, 1);
        t.due(0, 909, 0, 256);
        t.due(1, 909, 0, 0);
        t.due(0, 909, 0, 0);
        t.due(1, 902, 0);
        t.due(1, 909, 1, 1);
        t.due(0, 909, 0, 0);
        t.due(1, 909, 1, 0);
        looks(t);
    }

    // "A PERSON has the RIGHT to a KIND, or not: whether that is new. IndexOutOfBoundsException; IllegalArgumentException: another
    // kind."
    private static void rights() {
        Twins t = new Twins();
        t.due(0, 902, 0);
        t.thing(910, -1, 0, 1);
        t.thing(910, 4, 0, 1);
        t.thing(910, 4, 4, 1);
        t.number(910, 0, -1, 1);
        t.number(910, 0, 4, 1);
        t.number(910, 3, 4, 0);
        for (int person = 0; person < 4; person++) {
            for (int kind = 0; kind < 4; kind++) {
                t.due(0, 910, person, kind, 0);
                t.state(911, person, 0, 0, kind);
                t.due(1, 910, person, kind, 6);
                t.due(0, 910, person, kind, 1);
                t.due(0, 911, person, 0, 0, kind);
            }
        }
        for (int person = 0; person < 4; person++) {
            t.due(1, 910, person, person, 0);
            t.due(0, 910, person, person, 0);
            for (int kind = 0; kind < 4; kind++) {
                t.due(kind == person ? Check.STATE : 0, 911, person, 0, 0, kind);
            }
        }
        looks(t);
    }

    // "SEEN. IndexOutOfBoundsException; IllegalArgumentException: another kind; IllegalStateException: no RIGHT."
    private static void seen() {
        Twins t = new Twins();
        tell(t, 0, 1, 9, COUNT, 5, MOST);
        t.thing(911, 0, 0, 0, 0);
        t.due(0, 902, 0);
        t.thing(911, -1, 0, 0, 0);
        t.thing(911, 4, 0, 0, 0);
        t.thing(911, 0, -1, 0, 0);
        t.thing(911, 0, 1, 0, 0);
        t.thing(911, 0, 0, -1, 0);
        t.thing(911, 0, 0, 10, 0);
        t.thing(911, 0, 0, 10, 4);
        t.thing(911, 0, 1, 0, -1);
        t.number(911, 0, 0, 0, -1);
        t.number(911, 0, 0, 0, 4);
        t.state(911, 0, 0, 9, 0);
        t.due(1, 910, 0, 0, 1);
        t.due(5, 911, 0, 0, 9, COUNT);
        t.due(0, 911, 0, 0, 0, COUNT);
        t.state(911, 0, 0, 9, PLACE);
        t.state(911, 1, 0, 9, COUNT);
        t.number(911, 0, 0, 9, 4);
        looks(t);
    }

    // "while a BATCH of a SET is open, what was KNOWN when it was begun"
    private static void seenBatch() {
        Twins t = new Twins();
        tell(t, 0, 1, 0, COUNT, 5, 0);
        tell(t, 1, 1, 0, COUNT, 7, 0);
        tell(t, 2, 1, 0, COUNT, 11, 0);
        t.due(0, 902, 0);
        t.due(1, 902, 1);
        t.due(2, 902, 2);
        t.due(1, 910, 0, COUNT, 1);
        t.due(1, 909, 0, 1);
        t.due(1, 903, 0, 1);
        t.due(5, 911, 0, 0, 0, COUNT);
        t.due(12, 905, 0, 0, COUNT, 0);
        t.due(2, 907, 0);
        t.due(0, 909, 0, 1);
        t.due(5, 911, 0, 0, 0, COUNT);
        // Another set that joins gets all; its own BATCH is another one.
        t.due(2, 903, 2, 0);
        t.due(23, 911, 0, 2, 0, COUNT);
        t.due(1, 909, 0, 0);
        t.due(12, 911, 0, 0, 0, COUNT);
        t.due(1, 909, 0, 1);
        t.due(1, 903, 0, 2);
        t.due(12, 911, 0, 0, 0, COUNT);
        // A BATCH that begins with nothing.
        t.due(3, 902, 5);
        t.due(1, 909, 3, 1);
        t.due(3, 903, 3, 0);
        t.due(0, 911, 0, 3, 0, COUNT);
        t.due(1, 909, 3, 0);
        t.due(23, 911, 0, 3, 0, COUNT);
        looks(t);
    }

    // "An ENTRY is opened: which one it is. IllegalArgumentException: day is not 0 .. 3599"
    private static void entries() {
        Twins t = new Twins();
        t.number(912, -1);
        t.number(912, 3600);
        t.number(912, MOST);
        t.number(912, LEAST);
        t.thing(914, 0);
        t.due(0, 912, 0);
        t.due(1, 912, 3599);
        t.thing(914, 2);
        t.due(1, 913, 1, 0, 0);
        t.due(1, 914, 1);
        looks(t);
    }

    // "ENTRIES 0 .. 59"; "IllegalStateException: there are 60."
    private static void entriesFull() {
        Twins t = new Twins();
        for (int i = 0; i < 60; i++) {
            t.due(i, 912, i);
        }
        t.state(912, 0);
        t.number(912, -1);
        t.number(912, 3600);
        t.thing(913, 60, 0, 0);
        t.thing(914, 60);
        for (int i = 0; i < 60; i++) {
            t.due(1, 913, i, 9, 0);
            t.due(i + 1, 914, i);
        }
        t.state(917, 60, 0);
        t.thing(917, 61, 0);
        looks(t);
    }

    // "how many it has. IndexOutOfBoundsException; IllegalArgumentException: cents are not -1000000000 .. 1000000000"
    private static void rows() {
        Twins t = new Twins();
        t.thing(913, 0, 0, 0);
        t.due(0, 912, 7);
        t.thing(913, 1, 0, 0);
        t.thing(913, -1, 0, 0);
        t.thing(913, 0, -1, 0);
        t.thing(913, 0, 10, 0);
        t.thing(913, 0, 10, MOST);
        t.number(913, 0, 0, 1000000001);
        t.number(913, 0, 0, -1000000001);
        t.number(913, 0, 9, LEAST);
        t.due(1, 913, 0, 0, 1000000000);
        t.due(2, 913, 0, 9, -1000000000);
        t.due(0, 915, 0, 3599);
        t.due(1, 914, 0);
        t.due(1000000000, 915, 0, 3599);
        t.due(-1000000000, 915, 9, 3599);
        looks(t);
    }

    // "ROWS, 6 at most"; "IllegalStateException: it has 6, or is CLOSED."
    private static void rowsFull() {
        Twins t = new Twins();
        t.due(0, 912, 7);
        t.due(1, 912, 7);
        for (int i = 1; i <= 6; i++) {
            t.due(i, 913, 0, i, i < 6 ? 1000000000 : -1000000000);
        }
        t.state(913, 0, 0, 0);
        t.number(913, 0, 0, 1000000001);
        t.thing(913, 0, 10, 0);
        t.due(0, 914, 0);
        t.due(1, 913, 1, 3, 0);
        t.due(1, 914, 1);
        t.state(913, 1, 3, 0);
        t.number(913, 1, 3, 1000000001);
        t.thing(913, 1, 10, 0);
        t.due(2, 912, 7);
        for (int i = 1; i <= 6; i++) {
            t.due(i, 913, 2, 5, i % 2 == 0 ? 1000000000 : -1000000000);
        }
        t.due(2, 914, 2);
        t.state(913, 2, 5, 0);
        looks(t);
    }

    // "CLOSED, if it has a ROW and all its cents together are 0, it gets the next NUMBER 1, 2, .. and counts; else it is refused,
    // and stays open."; "IndexOutOfBoundsException; IllegalStateException: it is CLOSED."
    private static void closes() {
        Twins t = new Twins();
        t.thing(914, 0);
        t.due(0, 912, 7);
        t.due(1, 912, 7);
        t.thing(914, 2);
        t.thing(914, -1);
        t.due(0, 914, 0);
        t.due(1, 913, 0, 0, 1);
        t.due(0, 914, 0);
        t.due(2, 913, 0, 1, -2);
        t.due(0, 914, 0);
        t.due(3, 913, 0, 2, 1);
        t.due(1, 914, 0);
        t.state(914, 0);
        t.due(1, 913, 1, 0, 0);
        t.due(2, 914, 1);
        t.state(914, 1);
        // A sum beyond an int is no 0.
        t.due(2, 912, 7);
        for (int i = 1; i <= 4; i++) {
            t.due(i, 913, 2, 0, 1000000000);
        }
        t.due(5, 913, 2, 0, 294967296);
        t.due(0, 914, 2);
        t.due(1, 915, 0, 3599);
        looks(t);
    }

    // "once MONTH m is closed, no ENTRY of a DAY in it or before it can be CLOSED"; "MONTHS are 30 days"
    private static void closesByMonth() {
        int[] days = {0, 29, 30, 59, 60, 89, 90, 3599};
        for (int month = -1; month <= 3; month++) {
            Twins t = new Twins();
            for (int i = 0; i < days.length; i++) {
                t.due(i, 912, days[i]);
                t.due(1, 913, i, 0, 0);
            }
            if (month >= 0) {
                t.due(1, 916, month);
            }
            int number = 0;
            for (int i = 0; i < days.length; i++) {
                boolean may = days[i] / 30 > month;
                t.due(may ? ++number : 0, 914, i);
                t.due(may ? Check.STATE : 0, 914, i);
            }
            t.due(1, 916, 119);
            t.due(8, 912, 3599);
            t.due(1, 913, 8, 0, 0);
            t.due(0, 914, 8);
            looks(t);
        }
    }

    // "All ENTRIES that are CLOSED, of DAYS up to one: the sum of an ACCOUNT's cents. IndexOutOfBoundsException."
    private static void balances() {
        Twins t = new Twins();
        t.thing(915, -1, 0);
        t.thing(915, 10, 0);
        t.due(0, 915, 0, LEAST);
        t.due(0, 915, 9, MOST);
        t.due(0, 912, 50);
        t.due(1, 913, 0, 3, 10);
        t.due(2, 913, 0, 3, 5);
        t.due(3, 913, 0, 9, -15);
        t.due(0, 915, 3, MOST);
        t.due(1, 914, 0);
        t.due(0, 915, 3, 49);
        t.due(15, 915, 3, 50);
        t.due(15, 915, 3, MOST);
        t.due(0, 915, 3, LEAST);
        t.due(-15, 915, 9, 50);
        t.due(0, 915, 4, MOST);
        // An ENTRY that is opened later, of an earlier day.
        t.due(1, 912, 20);
        t.due(1, 913, 1, 3, -4);
        t.due(2, 913, 1, 4, 4);
        t.due(2, 914, 1);
        t.due(0, 915, 3, 19);
        t.due(-4, 915, 3, 20);
        t.due(11, 915, 3, 50);
        t.due(0, 915, 5, 50);
        // As many cents as there can be.
        for (int i = 2; i < 60; i++) {
            t.due(i, 912, 60);
            for (int k = 1; k <= 3; k++) {
                t.due(k, 913, i, 7, 1000000000);
            }
        }
        t.due(0, 915, 7, MOST);
        t.due(0, 914, 5);
        looks(t);
    }

    // "A MONTH is closed, and all before it: whether it was not. IllegalArgumentException: month is not 0 .. 119."
    private static void months() {
        Twins t = new Twins();
        t.number(916, -1);
        t.number(916, 120);
        t.number(916, LEAST);
        t.due(1, 916, 0);
        t.due(0, 916, 0);
        t.due(1, 916, 5);
        for (int month = 0; month <= 5; month++) {
            t.due(0, 916, month);
        }
        t.number(916, 120);
        t.due(1, 916, 6);
        t.due(1, 916, 119);
        t.due(0, 916, 119);
        t.due(0, 916, 118);
        t.number(916, 120);
        looks(t);
    }

    /** An ENTRY of a day with rows of 5 and - 5, CLOSED by the number told. */
    private static void closed(Twins t, int entry, int day, int number) {
        t.due(entry, 912, day);
        t.due(1, 913, entry, 1, 5);
        t.due(2, 913, entry, 2, -5);
        t.due(number, 914, entry);
    }

    // "REVERSED: the NUMBER of what reverses; 0 if the DAY's MONTH is closed. IndexOutOfBoundsException: no such NUMBER;
    // IllegalArgumentException: day is not 0 .. 3599"; "with all its ROWS' cents turned round, CLOSED at once"
    private static void reverses() {
        Twins t = new Twins();
        t.thing(917, 1, 0);
        t.thing(917, 0, 0);
        t.due(0, 912, 10);
        t.due(1, 913, 0, 1, 1);
        closed(t, 1, 40, 1);
        t.thing(917, 2, 0);
        t.thing(917, 0, 0);
        t.thing(917, -1, 0);
        t.thing(917, 2, 3600);
        t.number(917, 1, -1);
        t.number(917, 1, 3600);
        t.due(1, 916, 1);
        t.due(0, 917, 1, 59);
        t.due(0, 917, 1, 0);
        t.due(5, 915, 1, 3599);
        t.due(2, 917, 1, 60);
        t.due(5, 915, 1, 59);
        t.due(0, 915, 1, 60);
        t.due(0, 915, 2, 60);
        t.due(-5, 915, 2, 59);
        t.state(914, 2);
        t.state(913, 2, 0, 0);
        t.thing(917, 3, 60);
        t.due(3, 912, 70);
        looks(t);
    }

    // "each NUMBER once, and not one that reverses"; "IllegalStateException: it is REVERSED, or reverses"
    private static void reversesOnce() {
        Twins t = new Twins();
        closed(t, 0, 10, 1);
        closed(t, 1, 20, 2);
        t.due(3, 917, 1, 3599);
        t.state(917, 1, 3599);
        t.state(917, 3, 3599);
        t.number(917, 1, 3600);
        t.number(917, 3, -1);
        t.due(4, 917, 2, 0);
        t.state(917, 2, 0);
        t.state(917, 4, 0);
        t.due(1, 916, 119);
        // The exception comes before the 0 of a closed MONTH.
        t.state(917, 1, 0);
        t.state(917, 4, 0);
        t.number(917, 1, -1);
        t.thing(917, 5, 0);
        looks(t);
    }

    // "or there are 60 ENTRIES"
    private static void reversesFull() {
        Twins t = new Twins();
        closed(t, 0, 10, 1);
        closed(t, 1, 10, 2);
        for (int i = 2; i < 59; i++) {
            t.due(i, 912, i);
        }
        t.due(3, 917, 1, 50);
        t.state(917, 2, 50);
        t.number(917, 2, -1);
        t.due(1, 916, 10);
        t.state(917, 2, 50);
        t.due(10, 915, 1, 49);
        t.due(5, 915, 1, 50);
        looks(t);
    }
}
