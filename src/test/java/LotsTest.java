/** Promise 39: seasons by lots. */
public final class LotsTest {
    private static final Due due = new Due();
    private static final String LAND = "g4231504 b22 d51 p63";

    public static void main(String[] args) {
        played(1, 1);
        played(40, 5);
        played(7, 2147483646);
        played(20, 123456789);
        withoutBands();
        refused();
        due.end("LotsTest");
    }

    /** The same as the EVENINGS one by one. */
    private static void played(int n, int seed) {
        MovingHills x = Due.of(LAND);
        MovingHills y = Due.of(LAND);
        x.frost(3);
        long lot = seed;
        int inches = 0;
        for (int e = 0; e < n; e++) {
            lot = lot * 48271 % 2147483647;
            boolean cold = lot / 128 % 2 == 1;
            y.frost(cold ? 1 << lot / 256 % 7 : 0);
            inches += y.evening((int) (lot % 27));
        }
        int asked = x.asked();
        String what = "season(" + n + ", " + seed + ")";
        due.is(what, x.season(n, seed), inches);
        due.is(what + " tells nothing", x.asked(), asked);
        due.is(what + ", digest()", x.digest(), y.digest());
        due.is(what + ", count(2)", x.count(2), n);
        due.is(what + " undone", x.undo(0), n);
        due.heights(what + " undone", x, 4, 2, 3, 1, 5, 0, 4);
    }

    private static void withoutBands() {
        MovingHills x = Due.of("g12");
        due.is("season(3, 9)", x.season(3, 9), 0);
        due.is("count(2)", x.count(2), 3);
    }

    private static void refused() {
        MovingHills x = Due.of(LAND);
        due.is("season(0, 1)", x.season(0, 1), Due.BAD);
        due.is("season(-1, 1)", x.season(-1, 1), Due.BAD);
        due.is("season(41, 1)", x.season(41, 1), Due.BAD);
        due.is("season(1, 0)", x.season(1, 0), Due.BAD);
        due.is("season(1, -1)", x.season(1, -1), Due.BAD);
        due.is("season(1, max)", x.season(1, Integer.MAX_VALUE), Due.BAD);
        due.is("count(2)", x.count(2), 0);
        due.holds("season(21, 1)", x.season(21, 1) >= 0);
        x.frost(5);
        long digest = x.digest();
        due.is("one too many", x.season(40, 1), Due.FULL);
        due.is("FULL changes nothing", x.digest(), digest);
        due.is("BAD ahead of FULL", x.season(40, 0), Due.BAD);
        due.holds("just as many", x.season(39, 1) >= 0);
        due.is("count(2)", x.count(2), 60);
        due.is("FULL", x.season(1, 1), Due.FULL);
        MovingHills none = new MovingHills();
        due.is("without SPOTS", none.season(1, 1), Due.STATE);
        due.is("BAD ahead of STATE", none.season(0, 1), Due.BAD);
    }
}
