/** Promises 40 to 46: what is told. */
public final class ToldTest {
    private static final Due due = new Due();

    public static void main(String[] args) {
        promise40();
        promise41and42();
        promise43();
        promise44and45();
        promise46();
        due.end("ToldTest");
    }

    /** Calls that tell nothing leave asked() alone, and so does what is refused or NONE. */
    private static void promise40() {
        MovingHills x = Due.of("g0390 b01 d33 t21");
        due.is("asked() before", x.asked(), 0);
        due.tells("spot(2)", x, x.spot(2), 0, 9);
        x.row(0, 4);
        x.text(1, 3);
        x.copy(0, 0, 0, 1, 2);
        x.put(1, 0, 3);
        x.fault(1);
        x.mark(1, 1);
        x.frost(0);
        x.move(0, 0);
        x.heights(3);
        x.keep(0);
        x.on(0);
        x.round(0);
        x.raise(0, 0, 1, 2);
        x.could(0, 3);
        x.far(3);
        x.season(1, 1);
        x.undo(0);
        x.upper();
        x.lower();
        x.count(0);
        x.finding();
        x.findings(1);
        x.digest();
        x.tear(0);
        due.is("asked() of spot(2) still", x.asked(), 9);
        x.land(0);
        due.is("asked() behind land()", x.asked(), 9);
        due.is("flat(15, 0)", x.flat(15, 0), Due.NONE);
        due.is("asked() behind NONE", x.asked(), 9);
    }

    private static void part(String land, long upper, long lower) {
        MovingHills x = Due.of(land);
        due.is("upper() of " + land, x.upper(), upper);
        due.is("lower() of " + land, x.lower(), lower);
    }

    private static void promise41and42() {
        part("g00", 0, 1);
        part("g90", 1, 1);
        part("g33", 1, 2);
        part("g642", 1, 2);
        part("g643", 6, 13);
        part("g4321", 2, 5);
        part("g9999999999", 1, 10);
        MovingHills none = new MovingHills();
        due.is("upper() without SPOTS", none.upper(), 0);
        due.is("lower() without SPOTS", none.lower(), 1);
    }

    private static void counts(String what, MovingHills x, int... want) {
        for (int c = 0; c < want.length; c++) due.is(what + ", count(" + c + ")", x.count(c), want[c]);
    }

    private static void promise43() {
        MovingHills x = Due.of("g03900 b01 d33 t21");
        counts("a LAND", x, 5, 3, 0, 27, 0, 2, 0, 1, 0);
        x.frost(11);
        x.evening(3);
        x.evening(4);
        x.row(0, 3);
        x.row(3, 0);
        x.text(2, 2);
        x.keep(2);
        counts("more of all", x, 5, 3, 2, 27, 3, 2, 2, 2, 1);
        due.is("count(9)", x.count(9), Due.BAD);
        due.is("count(-1)", x.count(-1), Due.BAD);
        counts("without BANDS", Due.of("g03"), 2, 0, 0, 1, 0, 0, 0, 1, 0);
        counts("two BANDS", Due.of("g03p11e02"), 2, 2, 0, 9, 0, 0, 0, 1, 0);
        counts("one BAND", Due.of("g03d11"), 2, 1, 0, 3, 0, 1, 0, 1, 0);
    }

    private static void promise44and45() {
        MovingHills x = Due.of("g03 b01");
        due.is("finding() before", x.finding(), 0);
        due.finds("NOTHING", x, x.at(0, 0), Due.NOTHING);
        x.row(0, 0);
        due.finds("BEYOND", x, x.at(0, 0), Due.BEYOND);
        due.finds("BEYOND", x, x.lay(0, 0, 1), Due.BEYOND);
        due.finds("UNLIKE", x, x.mark(0, 3), Due.UNLIKE);
        due.finds("NOUGHT", x, x.mean(0), Due.NOUGHT);
        due.finds("SIZE", x, x.played(0), Due.SIZE);
        x.spot(9);
        x.spot(0);
        due.is("finding() stays", x.finding(), Due.SIZE);
        int[] want = {Due.BAD, 1, 2, 1, 1, 1, Due.BAD};
        for (int f = 0; f < want.length; f++) due.is("findings(" + f + ")", x.findings(f), want[f]);
        due.is("findings(-1)", x.findings(-1), Due.BAD);
        x.land(0);
        due.is("finding() behind land()", x.finding(), Due.SIZE);
        due.is("findings(2) behind land()", x.findings(2), 2);
    }

    private static long digestOf(long... values) {
        long h = 17;
        for (long v : values) h = 31 * h + v;
        return h;
    }

    private static void promise46() {
        due.is("digest() of a new object", new MovingHills().digest(), digestOf(0, 0, 0, 0, 0, 0, 0, 0, 0,
            -1, -1, -1, -1, -1, -1, -1, -1, -1, -1, -1, -1, -1));
        MovingHills x = Due.of("g030 b02 t22");
        x.evening(1);
        x.evening(6);
        x.frost(5);
        x.keep(1);
        Due.fill(x, 2, -7, 9);
        x.row(5, 0);
        x.text(3, 1);
        x.put(3, 0, 200);
        int finding = x.finding();
        int asked = x.asked();
        // By 1 an inch goes from SPOT 1 to 0; by 6 the BIG DRUM sends 2 inches from SPOT 1 to 0.
        due.is("digest()", x.digest(), digestOf(3, 2, 2, 9, 2, 1, 2, 2, 1,
            3, 1, 0, 0, 0, 1,
            0, 0, 2, 6, 1, 4, 2, 2, 3, 2,
            1, 6,
            -1, 2, -1,
            -1, -1, 2, -7, 9, -1, -1, 0,
            12, 'g', '0', '3', '0', ' ', 'b', '0', '2', ' ', 't', '2', '2', -1, -1, 1, -56));
        due.is("digest() tells nothing", x.asked(), asked);
        due.is("digest() finds nothing", x.finding(), finding);
    }
}
