/**
 * Two objects that are told the same. What must be refused is asked of the first one alone: what both are asked
 * behind that tells whether the refused call has changed something.
 */
final class Twins {
    private final TimberHouse one = new TimberHouse();
    private final TimberHouse other = new TimberHouse();

    TimberHouse first() {
        return one;
    }

    TimberHouse second() {
        return other;
    }

    void due(long want, int... v) {
        Check.due(one, want, v);
        Check.due(other, want, v);
    }

    void thing(int... v) {
        Check.due(one, Check.THING, v);
    }

    void number(int... v) {
        Check.due(one, Check.NUMBER, v);
    }

    void state(int... v) {
        Check.due(one, Check.STATE, v);
    }

    void same(int... v) {
        Check.due("as the twin: act" + java.util.Arrays.toString(v), Check.act(one, v), Check.act(other, v));
    }

    void write(int unit, String text) {
        Check.write(one, unit, text);
        Check.write(other, unit, text);
    }

    void read(int unit, String text, long want) {
        Check.read(one, unit, text, want);
        Check.read(other, unit, text, want);
    }
}
