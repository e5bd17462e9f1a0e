/** Promise 39, sentence by sentence: seasons by lots. */
final class LotsSentences {
    private static final String LAND = "g4231504 b22 d51 p63";

    private LotsSentences() {
    }

    static void run(Sentences s) {
        s.in("Promise 39");
        s.test("A season by LOTS of a seed: n (1 .. 40) EVENINGS truly,", LotsSentences::truly);
        s.test("each by a number modulo how many PROGRAMS there are;", LotsSentences::programs);
        s.test("ahead of each, if it by 128, cut, is odd, FROST is on the SPOT at it by 256, cut, "
            + "modulo how many there are, alone,", LotsSentences::frost);
        s.test("else nowhere:", LotsSentences::noFrost);
        s.test("all inches MOVED.", LotsSentences::inches);
        s.test("BAD;", LotsSentences::bad);
        s.test("STATE: no SPOTS;", LotsSentences::state);
        s.test("FULL: with n more there would be more than 60.", LotsSentences::full);
        s.test("(FULL last.)", LotsSentences::fullLast);
    }

    private static long next(long lot) {
        return lot * 48271 % 2147483647;
    }

    /** The same as a season, EVENING by EVENING: how many inches. */
    private static int byHand(MovingHills x, int n, int seed) {
        int spots = x.count(0);
        int programs = x.count(3);
        int inches = 0;
        long lot = seed;
        for (int e = 0; e < n; e++) {
            lot = next(lot);
            x.frost(lot / 128 % 2 == 1 ? 1 << lot / 256 % spots : 0);
            inches += x.evening((int) (lot % programs));
        }
        return inches;
    }

    private static void same(Due due, String land, int n, int seed) {
        MovingHills x = Due.of(land);
        MovingHills y = Due.of(land);
        String what = "season(" + n + ", " + seed + ") of " + land;
        due.is(what, x.season(n, seed), byHand(y, n, seed));
        due.is(what + ", digest()", x.digest(), y.digest());
        due.is(what + ", EVENINGS", x.count(2), n);
        due.is(what + ", undone", x.undo(n - 1), y.undo(n - 1));
        due.is(what + ", undone, digest()", x.digest(), y.digest());
    }

    private static void truly(Due due) {
        for (int n : new int[] {1, 2, 39, 40}) same(due, LAND, n, 77);
        for (int seed : new int[] {1, 2, 128, 2147483645, 2147483646}) same(due, LAND, 3, seed);
    }

    private static void programs(Due due) {
        same(due, "g12", 7, 5);
        same(due, "g4231504 d51", 7, 5);
        same(due, "g4231504 b22 d51", 7, 5);
        same(due, "g4231504 b22 d51 t63", 7, 5);
    }

    /** A seed whose first number has, or has not, FROST, on a given SPOT. */
    private static int seedOf(boolean cold, int spot, int spots) {
        for (int seed = 1; seed < 100000; seed++) {
            long lot = next(seed);
            if (lot / 128 % 2 == 1 == cold && lot / 256 % spots == spot) return seed;
        }
        return 0;
    }

    private static void frost(Due due) {
        for (int spot = 0; spot < 7; spot++) {
            MovingHills x = Due.of(LAND);
            x.frost(127);
            x.season(1, seedOf(true, spot, 7));
            due.is("on SPOT " + spot + " alone", x.frost(0), 1 << spot);
        }
        // Of one of two SPOTS nothing is MOVED while it has FROST, ahead of the EVENING already.
        for (int seed = 1; seed < 60; seed++) {
            MovingHills x = Due.of("g09 b01 b01 b01");
            long lot = next(seed);
            boolean cold = lot / 128 % 2 == 1 && lot / 256 % 2 == 1;
            int marches = 0;
            for (long p = lot % 27; p > 0; p /= 3) marches += p % 3 == 1 ? 1 : 0;
            due.is("season(1, " + seed + ")", x.season(1, seed), cold ? 0 : marches);
        }
    }

    private static void noFrost(Due due) {
        for (int spot = 0; spot < 7; spot++) {
            MovingHills x = Due.of(LAND);
            x.frost(127);
            x.season(1, seedOf(false, spot, 7));
            due.is("nowhere", x.frost(0), 0);
        }
    }

    private static void inches(Due due) {
        MovingHills x = Due.of(LAND);
        int inches = x.season(20, 3);
        int moved = 0;
        for (int i = 0; i < 3; i++) {
            x.band(i, 4);
            moved += x.asked();
        }
        due.is("all inches", inches, moved);
        due.holds("some", inches > 0);
        x.spot(0);
        int asked = x.asked();
        inches = x.season(20, 4);
        due.is("asked() is not told", x.asked(), asked);
        int more = 0;
        for (int i = 0; i < 3; i++) {
            x.band(i, 4);
            more += x.asked();
        }
        due.is("those of this season alone", inches, more - moved);
        due.is("none without BANDS", Due.of("g99").season(40, 1), 0);
    }

    private static void bad(Due due) {
        MovingHills x = Due.of(LAND);
        due.bad("n is 0", x, y -> y.season(0, 1));
        due.bad("n is -1", x, y -> y.season(-1, 1));
        due.bad("n is 41", x, y -> y.season(41, 1));
        due.bad("n is the most", x, y -> y.season(Due.MAX, 1));
        due.bad("n is the least", x, y -> y.season(Due.MIN, 1));
        due.bad("seed 0", x, y -> y.season(1, 0));
        due.bad("seed -1", x, y -> y.season(1, -1));
        due.bad("seed 2147483647", x, y -> y.season(1, 2147483647));
        due.bad("the least seed", x, y -> y.season(1, Due.MIN));
    }

    private static void state(Due due) {
        MovingHills none = new MovingHills();
        due.refused("season(1, 1)", none, Due.STATE, y -> y.season(1, 1));
        due.refused("season(40, 2147483646)", none, Due.STATE, y -> y.season(40, 2147483646));
        due.bad("BAD ahead of STATE: n", none, y -> y.season(0, 1));
        due.bad("BAD ahead of STATE: n", none, y -> y.season(41, 1));
        due.bad("BAD ahead of STATE: seed", none, y -> y.season(1, 0));
    }

    private static void full(Due due) {
        MovingHills twenty = Due.evenings(LAND, 20);
        due.holds("20 and 40", twenty.season(40, 1) >= 0);
        due.is("60 EVENINGS", twenty.count(2), 60);
        due.refused("60 and 1", twenty, Due.FULL, y -> y.season(1, 1));
        MovingHills more = Due.evenings(LAND, 21);
        more.frost(5);
        due.refused("21 and 40", more, Due.FULL, y -> y.season(40, 1));
        due.holds("21 and 39", more.season(39, 1) >= 0);
        MovingHills last = Due.evenings(LAND, 59);
        due.refused("59 and 2", last, Due.FULL, y -> y.season(2, 1));
        due.holds("59 and 1", last.season(1, 1) >= 0);
    }

    private static void fullLast(Due due) {
        MovingHills x = Due.evenings(LAND, 60);
        due.bad("BAD ahead of FULL: n", x, y -> y.season(41, 1));
        due.bad("BAD ahead of FULL: n", x, y -> y.season(0, 1));
        due.bad("BAD ahead of FULL: seed", x, y -> y.season(1, 0));
        due.refused("FULL", x, Due.FULL, y -> y.season(1, 1));
    }
}
