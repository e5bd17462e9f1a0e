/** Promises 22 to 26: what comes of a program, aside. */
public final class AsideTest {
    private static final Due due = new Due();

    public static void main(String[] args) {
        promise22();
        promise23();
        promise24();
        promise25and26();
        due.end("AsideTest");
    }

    private static void promise22() {
        MovingHills x = Due.of("g0500 b02 d31");
        long digest = x.digest();
        due.tells("behind(1, 0, 1)", x, x.behind(1, 0, 1), 5, 0);
        due.tells("behind(1, 3, 0)", x, x.behind(1, 3, 0), 3, 3);
        due.tells("behind(1, 60, 0)", x, x.behind(1, 60, 0), 5, 5);
        due.tells("behind(5, 2, 3)", x, x.behind(5, 2, 3), 2, 4);
        due.is("behind() is aside", x.digest(), digest);
        due.tells("behind(1, 61, 0)", x, x.behind(1, 61, 0), Due.BAD, 4);
        due.is("behind(1, -1, 0)", x.behind(1, -1, 0), Due.BAD);
        due.is("behind(9, 1, 0)", x.behind(9, 1, 0), Due.BAD);
        due.is("behind(-1, 1, 0)", x.behind(-1, 1, 0), Due.BAD);
        due.is("behind(1, 1, 4)", x.behind(1, 1, 4), Due.BAD);
        due.is("behind(1, 1, -1)", x.behind(1, 1, -1), Due.BAD);
        x.frost(2);
        due.tells("behind() with FROST", x, x.behind(1, 60, 0), 0, 0);
        due.is("behind() without SPOTS", new MovingHills().behind(0, 0, 0), Due.BAD);
    }

    private static void promise23() {
        MovingHills x = Due.of("g0500 b02 d31");
        due.tells("rest(0)", x, x.rest(0), 0, 5);
        due.tells("rest(1)", x, x.rest(1), 5, 5);
        due.tells("rest(2)", x, x.rest(2), 6, 5);
        due.is("rest() is aside", x.count(2), 0);
        due.tells("rest(9)", x, x.rest(9), Due.BAD, 5);
        due.is("rest(-1)", x.rest(-1), Due.BAD);
        // What BAND 0 brings to SPOT 0, BAND 1 takes back the same EVENING.
        MovingHills same = Due.of("g09 b01 b11");
        due.tells("MOVED, but HEIGHTS are the same", same, same.rest(4), 0, 9);
        due.tells("2 inches are MOVED there", same, same.behind(4, 1, 0), 0, 2);
        MovingHills none = new MovingHills();
        due.tells("rest(0) without SPOTS", none, none.rest(0), 0, 0);
        due.is("rest(1) without SPOTS", none.rest(1), Due.BAD);
    }

    private static void promise24() {
        MovingHills x = Due.of("g0500 b02 d31");
        due.is("round(0)", x.round(0), 1);
        due.is("round(1)", x.round(1), Due.NONE);
        due.is("round(9)", x.round(9), Due.BAD);
        due.is("round(-1)", x.round(-1), Due.BAD);
        due.is("round() tells nothing", x.asked(), 0);
        due.is("round() is aside", x.count(2), 0);
        MovingHills none = new MovingHills();
        due.is("round(0) without SPOTS", none.round(0), 1);
        due.is("round(1) without SPOTS", none.round(1), Due.BAD);
        MovingHills same = Due.of("g09 b01 b11");
        due.is("MOVED, but HEIGHTS are the same", same.round(4), 1);
        due.is("other HEIGHTS", same.round(1), Due.NONE);
    }

    private static void promise25and26() {
        MovingHills x = Due.of("g0500 b02 d31");
        due.tells("highest(0)", x, x.highest(0), 1, 1);
        due.tells("highest(1)", x, x.highest(1), 0, 5);
        due.tells("highest(2)", x, x.highest(2), 2, 1);
        due.tells("highest(3)", x, x.highest(3), 5, 1);
        due.tells("lowest(0)", x, x.lowest(0), 0, 0);
        due.tells("lowest(1)", x, x.lowest(1), 1, 4);
        due.tells("lowest(3)", x, x.lowest(3), 0, 0);
        due.is("aside", x.count(2), 0);
        due.tells("highest(4)", x, x.highest(4), Due.BAD, 0);
        due.is("highest(-1)", x.highest(-1), Due.BAD);
        due.is("lowest(4)", x.lowest(4), Due.BAD);
        due.is("lowest(-1)", x.lowest(-1), Due.BAD);
        x.frost(2);
        due.tells("highest(0) with FROST", x, x.highest(0), 0, 0);
        MovingHills quiet = Due.of("g47");
        due.tells("highest(1) without BANDS", quiet, quiet.highest(1), 0, 7);
        due.tells("lowest(0) without BANDS", quiet, quiet.lowest(0), 0, 4);
    }
}
