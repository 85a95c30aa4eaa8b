/** The desk: a new object, ANEW, and the calls that carry from part to part. */
public final class DeskTest {
    public static void main(String[] args) {
        TimberHouse x = new TimberHouse();
        int wrong = 0;
        wrong += x.act(1000, 0, 0, 0, 0, 0, 0) == TimberHouse.NO_CALL ? 0 : 1;
        if (wrong != 0) {
            System.out.println(wrong + " answers are not as due");
            System.exit(1);
        }
    }
}
