/** Promises 34 to 38: valleys, tops, borders, how far inches go. */
public final class BordersTest {
    private static final Due due = new Due();

    public static void main(String[] args) {
        promise34();
        promise35();
        promise36and37();
        promise38();
        due.end("BordersTest");
    }

    private static void valleys(String land, int many, int longest) {
        MovingHills x = Due.of(land);
        due.tells("valleys of " + land, x, x.valleys(), many, longest);
    }

    private static void promise34() {
        valleys("g12", 0, 0);
        valleys("g00", 1, 2);
        valleys("g0100110000", 3, 4);
        valleys("g1000010", 2, 4);
        valleys("g010", 2, 1);
        MovingHills none = new MovingHills();
        none.row(0, 1);
        none.lay(0, 0, 5);
        none.at(0, 0);
        due.tells("valleys without SPOTS", none, none.valleys(), 0, 0);
    }

    private static void promise35() {
        MovingHills x = Due.of("g0393");
        due.tells("top", x, x.top(), 2, 9);
        x = Due.of("g0535");
        due.tells("the first of alike ones", x, x.top(), 1, 5);
        x = Due.of("g000");
        due.tells("all 0 high", x, x.top(), 0, 0);
        due.is("top() without SPOTS", new MovingHills().top(), Due.STATE);
    }

    private static void promise36and37() {
        MovingHills x = Due.of("g7233 b11 d21");
        due.tells("border(1, 3)", x, x.border(1, 3), 2, 3);
        due.tells("border(0, 3)", x, x.border(0, 3), 0, 7);
        due.tells("border(0, 1)", x, x.border(0, 1), 0, 7);
        // BAND 0 is HEARD on 0 and 2, BAND 1 on 1 and 3: by 1 (MARCH) 6 4 2 3, by 2 7 2 2 4;
        // by 3 7 0 7 1, by 6 9 0 3 3; both: 4: 6 2 6 1, 5: 7 0 6 2, 7: 8 2 2 3, 8: 9 0 2 4.
        due.tells("shifts(0, 3)", x, x.shifts(0, 3), 0, Due.NONE);
        due.tells("shifts(1, 3)", x, x.shifts(1, 3), 4, 1);
        due.tells("shifts(1, 2): by 1, 2 and 7", x, x.shifts(1, 2), 3, 1);
        due.is("aside", x.count(2), 0);
        int[][] bad = {{1, 1}, {2, 1}, {-1, 1}, {0, 4}, {4, 5}, {-2, -1}};
        for (int[] xy : bad) {
            due.is("border(" + xy[0] + ", " + xy[1] + ")", x.border(xy[0], xy[1]), Due.BAD);
            due.is("shifts(" + xy[0] + ", " + xy[1] + ")", x.shifts(xy[0], xy[1]), Due.BAD);
        }
        due.is("asked()", x.asked(), 1);
        due.is("border() without SPOTS", new MovingHills().border(0, 1), Due.BAD);
    }

    private static void promise38() {
        MovingHills x = Due.of("g2031");
        x.heights(0);
        due.is("nowhere", x.far(0), 0);
        Due.fill(x, 0, 0, 2, 3, 1);
        due.is("2 inches by 1", x.far(0), 2);
        Due.fill(x, 0, 0, 0, 0, 6);
        due.is("all to the last", x.far(0), 2 * 3 + 3);
        Due.fill(x, 0, 3, 0, 3, 0);
        due.is("1 inch by 3", x.far(0), 3);
        Due.fill(x, 0, 1, 2, 1, 2);
        due.is("both ways", x.far(0), 3);
        Due.fill(x, 0, 3, 0, 3, 1);
        due.finds("too many inches", x, x.far(0), Due.NOUGHT);
        Due.fill(x, 0, 3, -1, 3, 1);
        due.finds("below 0", x, x.far(0), Due.UNLIKE);
        Due.fill(x, 0, -9, 0, 0, 0);
        due.finds("UNLIKE ahead of NOUGHT", x, x.far(0), Due.UNLIKE);
        Due.fill(x, 0, Integer.MAX_VALUE, Integer.MAX_VALUE, 8, 0);
        due.finds("a sum that wraps", x, x.far(0), Due.NOUGHT);
        Due.fill(x, 0, -1, 0, 0);
        due.finds("SIZE ahead of UNLIKE", x, x.far(0), Due.SIZE);
        due.finds("far(1)", x, x.far(1), Due.NOTHING);
        due.is("far(6)", x.far(6), Due.BAD);
        due.is("far(-1)", x.far(-1), Due.BAD);
        due.is("far() tells nothing", x.asked(), 0);
        MovingHills none = new MovingHills();
        due.is("STATE ahead of NOTHING", none.far(0), Due.STATE);
        due.is("BAD ahead of STATE", none.far(6), Due.BAD);
    }
}
