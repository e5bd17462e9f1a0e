/** Promises 31 to 33: who played what, by what has moved. */
public final class MovedTest {
    private static final Due due = new Due();

    public static void main(String[] args) {
        promise31();
        promise32();
        promise33();
        due.end("MovedTest");
    }

    private static void promise31() {
        MovingHills x = Due.of("g0200 b01 d21");
        x.heights(0);
        due.tells("nothing MOVED", x, x.played(0), 1, 0);
        Due.fill(x, 1, 1, 1, 0, 0);
        due.tells("1 inch to SPOT 0", x, x.played(1), 1, 1);
        Due.fill(x, 1, 0, 0, 2, 0);
        due.tells("2 inches to SPOT 2", x, x.played(1), 2, 3);
        Due.fill(x, 1, 0, 0, 0, 2);
        due.tells("none fits", x, x.played(1), 0, Due.NONE);
        due.is("played() is aside", x.count(2), 0);
        due.is("played(6)", x.played(6), Due.BAD);
        due.is("played(-1)", x.played(-1), Due.BAD);
        due.finds("played(5)", x, x.played(5), Due.NOTHING);
        x.row(1, 3);
        due.finds("too few", x, x.played(1), Due.SIZE);
        x.row(1, 5);
        due.finds("too many", x, x.played(1), Due.SIZE);
        due.is("asked()", x.asked(), Due.NONE);
        MovingHills none = new MovingHills();
        due.is("STATE ahead of NOTHING", none.played(0), Due.STATE);
        due.is("BAD ahead of STATE", none.played(6), Due.BAD);
        due.is("finding()", none.finding(), 0);
    }

    private static void promise32() {
        MovingHills x = Due.of("g0200 b01 d21");
        x.heights(0);
        due.is("nothing MOVED: BAND 0", x.could(0, 0), 1);
        due.is("nothing MOVED: BAND 1", x.could(1, 0), 1);
        Due.fill(x, 1, 2, 0, 0, 0);
        due.is("2 inches to SPOT 0: BAND 0", x.could(0, 1), 1 + 2);
        due.is("2 inches to SPOT 0: BAND 1", x.could(1, 1), 4);
        Due.fill(x, 1, 1, 0, 1, 0);
        due.is("MARCH and MARCH, or LULLABY twice: BAND 0", x.could(0, 1), 2 + 4);
        due.is("MARCH and MARCH, or LULLABY twice: BAND 1", x.could(1, 1), 2 + 4);
        Due.fill(x, 1, 0, 0, 0, 2);
        due.is("none fits", x.could(0, 1), 0);
        due.is("could() tells nothing", x.asked(), 0);
        due.is("could(2, 0)", x.could(2, 0), Due.BAD);
        due.is("could(-1, 0)", x.could(-1, 0), Due.BAD);
        due.is("could(0, 6)", x.could(0, 6), Due.BAD);
        due.is("could(0, -1)", x.could(0, -1), Due.BAD);
        due.finds("could(0, 5)", x, x.could(0, 5), Due.NOTHING);
        x.row(1, 3);
        due.finds("too few", x, x.could(0, 1), Due.SIZE);
        due.is("without SPOTS", new MovingHills().could(0, 0), Due.BAD);
    }

    private static void promise33() {
        MovingHills x = Due.of("g020 b01");
        x.heights(0);
        due.tells("nothing MOVED", x, x.twice(0), 1, 0);
        Due.fill(x, 1, 1, 1, 0);
        due.tells("1 inch", x, x.twice(1), 2, 1);
        Due.fill(x, 1, 1, 0, 1);
        due.tells("both ways", x, x.twice(1), 2, 1002);
        Due.fill(x, 1, 0, 0, 2);
        due.tells("2 inches off", x, x.twice(1), 1, 2002);
        Due.fill(x, 1, 0, 0, 3);
        due.tells("none fits", x, x.twice(1), 0, Due.NONE);
        due.is("twice() is aside", x.count(2), 0);
        due.is("twice(6)", x.twice(6), Due.BAD);
        due.is("twice(-1)", x.twice(-1), Due.BAD);
        due.finds("twice(5)", x, x.twice(5), Due.NOTHING);
        x.row(1, 4);
        due.finds("too many", x, x.twice(1), Due.SIZE);
        MovingHills none = new MovingHills();
        due.is("STATE ahead of NOTHING", none.twice(0), Due.STATE);
        due.is("BAD ahead of STATE", none.twice(6), Due.BAD);
    }
}
