/** Promises 17 to 21: evenings, undoing, heights, lands kept. */
public final class EveningsTest {
    private static final Due due = new Due();

    public static void main(String[] args) {
        kindsAndTunes();
        promise17();
        promise18();
        promise19();
        promise20and21();
        due.end("EveningsTest");
    }

    private static void plays(String land, int program, int inches, int... want) {
        MovingHills x = Due.of(land);
        due.is(land + " by " + program, x.evening(program), inches);
        due.heights(land + " by " + program, x, want);
    }

    private static void kindsAndTunes() {
        plays("g0300 b02", 0, 0, 0, 3, 0, 0);
        plays("g0300 b02", 1, 1, 1, 2, 0, 0);
        plays("g0300 b02", 2, 1, 0, 2, 1, 0);
        plays("g0010 b03", 1, 1, 0, 1, 0, 0);
        plays("g0100 b03", 2, 1, 0, 0, 1, 0);
        plays("g0003 b02", 1, 0, 0, 0, 0, 3);
        plays("g3030 b19", 2, 1, 3, 0, 2, 1);
        plays("g0103 b19", 2, 0, 0, 1, 0, 3);
        plays("g222 b11", 1, 2, 1, 4, 1);
        plays("g0300 d02", 1, 2, 2, 1, 0, 0);
        plays("g0100 d02", 1, 1, 1, 0, 0, 0);
        plays("g0310 d02", 2, 3, 0, 1, 2, 1);
        plays("g0210 p03", 1, 1, 1, 1, 1, 0);
        plays("g0120 p03", 2, 1, 0, 1, 1, 1);
        plays("g2022 c29", 1, 1, 2, 0, 3, 1);
        plays("g2022 c29", 2, 0, 2, 0, 2, 2);
        plays("g22222 c29", 2, 1, 2, 2, 2, 1, 3);
        plays("g00300 t01", 1, 2, 0, 2, 1, 0, 0);
        plays("g00030 t01", 1, 0, 0, 0, 0, 3, 0);
        plays("g0300 e02", 1, 1, 0, 2, 1, 0);
        plays("g0300 e02", 2, 1, 1, 2, 0, 0);
        plays("g0100 e02", 2, 0, 0, 1, 0, 0);
        plays("g0100 b01 b31", 5, 2, 0, 0, 0, 1);
        plays("g0100 b31 b01", 7, 1, 0, 0, 1, 0);
    }

    private static void promise17() {
        MovingHills x = Due.of("g0300 b02 d31 p09");
        due.tells("evening(0)", x, x.evening(0), 0, 0);
        due.tells("evening(9)", x, x.evening(9), 1, 9);
        due.heights("evening(9)", x, 1, 2, 0, 0);
        due.tells("evening(26)", x, x.evening(26), 3, 12);
        due.heights("evening(26)", x, 1, 1, 1, 0);
        due.tells("evening(27)", x, x.evening(27), Due.BAD, 0);
        due.is("evening(-1)", x.evening(-1), Due.BAD);
        due.is("count(2)", x.count(2), 3);
        for (int e = 3; e < 60; e++) due.is("evening " + e, x.evening(0), 0);
        due.is("FULL", x.evening(0), Due.FULL);
        due.is("BAD ahead of FULL", x.evening(27), Due.BAD);
        due.is("count(2)", x.count(2), 60);
        MovingHills none = new MovingHills();
        due.is("evening(0) without SPOTS", none.evening(0), Due.STATE);
        due.is("evening(1) without SPOTS", none.evening(1), Due.BAD);
        MovingHills quiet = Due.of("g12");
        due.tells("evening(0) without BANDS", quiet, quiet.evening(0), 0, 0);
        due.is("evening(1) without BANDS", quiet.evening(1), Due.BAD);
    }

    private static void promise18() {
        MovingHills x = Due.of("g0500 b02 d31");
        x.evening(1);
        x.evening(2);
        x.evening(5);
        due.heights("three EVENINGS", x, 1, 2, 0, 2);
        due.tells("what BAND 1 MOVED", x, x.band(1, 4), 1, 1);
        x.frost(4);
        x.move(0, 3);
        due.is("undo(4)", x.undo(4), Due.BAD);
        due.is("undo(-1)", x.undo(-1), Due.BAD);
        due.is("undo(3)", x.undo(3), 0);
        due.is("undo(1)", x.undo(1), 2);
        due.heights("undo(1)", x, 1, 4, 0, 0);
        due.tells("what BAND 0 MOVED", x, x.band(0, 4), 1, 1);
        due.tells("what BAND 1 MOVED", x, x.band(1, 4), 1, 0);
        due.is("count(2)", x.count(2), 1);
        due.is("FROST stays", x.frost(0), 4);
        due.tells("BANDS stay where they are", x, x.band(0, 1), 1, 3);
        due.is("undo(2)", x.undo(2), Due.BAD);
        due.is("undo(0)", x.undo(0), 1);
        due.heights("undo(0)", x, 0, 5, 0, 0);
        due.is("undo(0) again", x.undo(0), 0);
        due.is("undo(0) without SPOTS", new MovingHills().undo(0), 0);
        for (int e = 0; e < 60; e++) x.evening(1);
        due.is("undo(59)", x.undo(59), 1);
        due.is("one more goes again", x.evening(0), 0);
        due.is("undo(0) of 60", x.undo(0), 60);
        due.heights("undo(0) of 60", x, 0, 5, 0, 0);
    }

    private static void promise19() {
        MovingHills x = Due.of("g9999999999 b51");
        x.row(4, 40);
        due.is("heights(4)", x.heights(4), 90);
        due.row("heights(4)", x, 4, 9, 9, 9, 9, 9, 9, 9, 9, 9, 9);
        x.evening(1);
        due.is("heights(0)", x.heights(0), 90);
        due.row("heights(0)", x, 0, 9, 9, 9, 9, 8, 11, 8, 9, 9, 9);
        due.is("heights(6)", x.heights(6), Due.BAD);
        due.is("heights(-1)", x.heights(-1), Due.BAD);
        MovingHills none = new MovingHills();
        due.is("heights(5) without SPOTS", none.heights(5), 0);
        due.row("heights(5) without SPOTS", none, 5);
        due.is("count(6)", none.count(6), 1);
    }

    private static void promise20and21() {
        MovingHills x = Due.of("g0500 b02 d31");
        x.evening(1);
        x.frost(8);
        due.is("keep(1)", x.keep(1), 1);
        due.is("count(8)", x.count(8), 1);
        long kept = x.digest();
        x.frost(0);
        x.evening(2);
        x.move(1, 0);
        x.evening(3);
        due.is("keep(0)", x.keep(0), 3);
        due.is("count(8)", x.count(8), 2);
        due.is("on(1)", x.on(1), 1);
        due.heights("on(1)", x, 1, 4, 0, 0);
        due.is("FROST", x.frost(8), 8);
        due.tells("where BAND 1 is", x, x.band(1, 1), 1, 3);
        due.tells("what BAND 0 MOVED", x, x.band(0, 4), 1, 1);
        due.is("count(2)", x.count(2), 1);
        due.is("kept ones stay", x.count(8), 2);
        due.is("EVENINGS of it can be undone", x.undo(0), 1);
        due.heights("undone", x, 0, 5, 0, 0);
        due.is("on(0)", x.on(0), 3);
        due.heights("on(0)", x, 3, 1, 1, 0);
        due.is("undo(2)", x.undo(2), 1);
        due.heights("undo(2)", x, 1, 3, 1, 0);
        due.is("on(1) again", x.on(1), 1);
        due.heights("on(1) again", x, 1, 4, 0, 0);
        due.is("keep(0) anew", x.keep(0), 1);
        due.is("on(0) anew", x.on(0), 1);
        due.finds("on(2)", x, x.on(2), Due.NOTHING);
        due.is("keep(3)", x.keep(3), Due.BAD);
        due.is("keep(-1)", x.keep(-1), Due.BAD);
        due.is("on(3)", x.on(3), Due.BAD);
        due.is("on(-1)", x.on(-1), Due.BAD);
        due.is("count(8)", x.count(8), 2);
        due.holds("a kept LAND is in digest()", kept != x.digest());
        MovingHills none = new MovingHills();
        due.is("keep(0) without SPOTS", none.keep(0), Due.STATE);
        due.is("keep(3) without SPOTS", none.keep(3), Due.BAD);
        due.finds("on(0) without SPOTS", none, none.on(0), Due.NOTHING);
    }
}
