/** Promises 17 to 21, sentence by sentence: evenings, undoing, heights, lands kept. */
final class EveningsSentences {
    private static final String LAND = "g0500 b02 d31";

    private EveningsSentences() {
    }

    static void run(Sentences s) {
        s.in("Promise 17");
        s.test("AN EVENING by a PROGRAM: how many inches were MOVED;", EveningsSentences::inches);
        s.test("its BREATH by asked().", EveningsSentences::breath);
        s.test("BAD: also a PROGRAM of more BANDS;", EveningsSentences::eveningBad);
        s.test("STATE: no SPOTS;", EveningsSentences::eveningState);
        s.test("FULL: 60 EVENINGS.", EveningsSentences::eveningFull);
        s.test("(FULL last.)", EveningsSentences::fullLast);
        s.in("Promise 18");
        s.test("EVENINGS from number n (0 .. how many there were) on are undone", EveningsSentences::undo);
        s.test("(HEIGHTS, what BANDS MOVED;", EveningsSentences::undoHeights);
        s.test("FROST, where BANDS are stay):", EveningsSentences::undoLeaves);
        s.test("how many.", EveningsSentences::undoHowMany);
        s.test("BAD.", EveningsSentences::undoBad);
        s.in("Promise 19");
        s.test("The HEIGHTS come to a ROW (anew):", EveningsSentences::heights);
        s.test("all inches together.", EveningsSentences::allInches);
        s.test("BAD.", EveningsSentences::heightsBad);
        s.in("Promise 20");
        s.test("The LAND (HEIGHTS, FROST, where BANDS are, what they MOVED, EVENINGS)", EveningsSentences::keep);
        s.test("is kept in a place (0 .. 2): how many EVENINGS.", EveningsSentences::keepPlaces);
        s.test("BAD; STATE: no SPOTS.", EveningsSentences::keepRefused);
        s.in("Promise 21");
        s.test("The LAND is as it was kept: how many EVENINGS.", EveningsSentences::on);
        s.test("BAD; NOTHING.", EveningsSentences::onRefused);
    }

    private static void inches(Due due) {
        MovingHills x = Due.of("g1111111111 t05 b93 p44");
        due.is("silence", x.evening(0), 0);
        due.is("a BIG DRUM from nine SPOTS", x.evening(1), 9);
        due.heights("a BIG DRUM from nine SPOTS", x, 2, 1, 1, 1, 1, 1, 1, 1, 1, 0);
        due.is("a BAND from three", x.evening(3), 3);
        due.heights("a BAND from three", x, 2, 1, 1, 1, 1, 1, 0, 1, 1, 1);
        due.is("a PIPE from one", x.evening(9), 1);
        due.heights("a PIPE from one", x, 1, 2, 1, 1, 1, 1, 0, 1, 1, 1);
        due.is("EVENINGS", x.count(2), 4);
        MovingHills still = Due.of("g00 b09");
        due.is("nothing to MOVE", still.evening(1), 0);
        due.is("nothing to MOVE", still.evening(2), 0);
        due.is("they are EVENINGS, too", still.count(2), 2);
        MovingHills back = Due.of("g09 b01 b11");
        due.is("to and fro", back.evening(4), 2);
        due.heights("to and fro", back, 0, 9);
    }

    private static void breath(Due due) {
        MovingHills x = Due.of("g00 b09 b09 b09");
        due.tells("silence", x, x.evening(0), 0, 0);
        due.tells("all, though nothing is MOVED", x, x.evening(26), 0, 27);
        due.tells("one", x, x.evening(3), 0, 9);
        MovingHills quiet = Due.of("g99");
        quiet.spot(0);
        due.tells("without BANDS", quiet, quiet.evening(0), 0, 0);
    }

    private static void eveningBad(Due due) {
        String[] lands = {"g55", "g55b01", "g55b01d11", "g55b01d11p01"};
        int programs = 1;
        for (String land : lands) {
            int many = programs;
            due.holds("the last PROGRAM of " + land, Due.of(land).evening(many - 1) >= 0);
            due.bad("one more of " + land, Due.of(land), x -> x.evening(many));
            due.bad("-1 of " + land, Due.of(land), x -> x.evening(-1));
            due.bad("the most of " + land, Due.of(land), x -> x.evening(Due.MAX));
            due.bad("the least of " + land, Due.of(land), x -> x.evening(Due.MIN));
            programs *= 3;
        }
    }

    private static void eveningState(Due due) {
        due.refused("evening(0)", new MovingHills(), Due.STATE, x -> x.evening(0));
        due.bad("BAD ahead of STATE: evening(1)", new MovingHills(), x -> x.evening(1));
        due.bad("BAD ahead of STATE: evening(-1)", new MovingHills(), x -> x.evening(-1));
    }

    private static void eveningFull(Due due) {
        MovingHills x = Due.evenings(LAND, 59);
        due.is("the 60th", x.evening(1), 1);
        due.is("EVENINGS", x.count(2), 60);
        due.refused("one more", x, Due.FULL, y -> y.evening(1));
        due.refused("one more of silence", x, Due.FULL, y -> y.evening(0));
        due.is("undo(59)", x.undo(59), 1);
        due.is("the 60th again", x.evening(1), 1);
        due.refused("one more again", x, Due.FULL, y -> y.evening(1));
    }

    private static void fullLast(Due due) {
        MovingHills x = Due.evenings(LAND, 60);
        due.bad("BAD ahead of FULL: evening(9)", x, y -> y.evening(9));
        due.bad("BAD ahead of FULL: evening(-1)", x, y -> y.evening(-1));
        due.refused("FULL", x, Due.FULL, y -> y.evening(8));
    }

    private static void undo(Due due) {
        for (int n = 0; n <= 3; n++) {
            MovingHills x = Due.of(LAND);
            MovingHills same = Due.of(LAND);
            int[] programs = {1, 5, 3};
            for (int e = 0; e < 3; e++) {
                x.evening(programs[e]);
                if (e < n) same.evening(programs[e]);
            }
            due.is("undo(" + n + ")", x.undo(n), 3 - n);
            due.is("undo(" + n + "), digest()", x.digest(), same.digest());
        }
        MovingHills full = Due.evenings(LAND, 60);
        due.is("undo(60) of 60", full.undo(60), 0);
        due.is("undo(0) of 60", full.undo(0), 60);
        due.is("undo(0) of none", full.undo(0), 0);
        due.is("undo(0) without SPOTS", new MovingHills().undo(0), 0);
    }

    private static void undoHeights(Due due) {
        MovingHills x = Due.of(LAND);
        x.evening(1);
        x.evening(5);
        due.heights("two EVENINGS", x, 1, 3, 0, 1);
        x.undo(1);
        due.heights("undo(1)", x, 1, 4, 0, 0);
        due.tells("what BAND 0 MOVED", x, x.band(0, 4), 1, 1);
        due.tells("what BAND 1 MOVED", x, x.band(1, 4), 1, 0);
        x.undo(0);
        due.heights("undo(0)", x, 0, 5, 0, 0);
        due.tells("what BAND 0 MOVED", x, x.band(0, 4), 1, 0);
    }

    /** FROST and BANDS that went elsewhere since do not change what comes back. */
    private static void undoLeaves(Due due) {
        MovingHills x = Due.of(LAND);
        x.evening(1);
        x.frost(2 + 8);
        x.move(0, 2);
        x.evening(0);
        x.undo(0);
        due.heights("undone", x, 0, 5, 0, 0);
        due.is("FROST", x.frost(0), 2 + 8);
        due.tells("where BAND 0 is", x, x.band(0, 1), 1, 2);
        MovingHills season = Due.of("g4231504 b22 d51 p63");
        season.season(3, 1);
        int frost = season.frost(0);
        season.frost(frost);
        season.undo(0);
        due.is("FROST of a season", season.frost(0), frost);
    }

    private static void undoHowMany(Due due) {
        MovingHills x = Due.evenings(LAND, 10);
        due.is("undo(10)", x.undo(10), 0);
        due.is("undo(9)", x.undo(9), 1);
        due.is("undo(4)", x.undo(4), 5);
        due.is("undo(0)", x.undo(0), 4);
        due.is("EVENINGS", x.count(2), 0);
    }

    private static void undoBad(Due due) {
        MovingHills x = Due.evenings(LAND, 2);
        due.bad("undo(3)", x, y -> y.undo(3));
        due.bad("undo(-1)", x, y -> y.undo(-1));
        due.bad("undo(max)", x, y -> y.undo(Due.MAX));
        due.bad("undo(min)", x, y -> y.undo(Due.MIN));
        due.bad("undo(61) of 60", Due.evenings(LAND, 60), y -> y.undo(61));
        due.bad("undo(1) without SPOTS", new MovingHills(), y -> y.undo(1));
        due.bad("undo(1) of none", Due.of(LAND), y -> y.undo(1));
    }

    private static void heights(Due due) {
        for (int r = 0; r <= 5; r++) {
            MovingHills x = Due.of("g1234567890");
            if (r % 2 == 0) x.row(r, 40);
            x.lay(r, 9, 77);
            due.is("heights(" + r + ")", x.heights(r), 45);
            due.row("heights(" + r + ")", x, r, 1, 2, 3, 4, 5, 6, 7, 8, 9, 0);
            due.is("ROWS", x.count(6), 1);
        }
        MovingHills small = Due.of("g78 b01");
        Due.fill(small, 0, 5);
        small.evening(1);
        due.is("as they are now", small.heights(0), 15);
        due.row("as they are now", small, 0, 8, 7);
        MovingHills none = new MovingHills();
        due.is("without SPOTS", none.heights(0), 0);
        due.row("without SPOTS", none, 0);
    }

    private static void allInches(Due due) {
        due.is("none", Due.of("g00").heights(0), 0);
        due.is("one", Due.of("g01").heights(0), 1);
        due.is("the most", Due.of("g9999999999").heights(0), 90);
        MovingHills x = Due.of("g9999999999 t49 d09 e91");
        x.season(40, 12345);
        due.is("all are kept", x.heights(0), 90);
    }

    private static void heightsBad(Due due) {
        MovingHills x = Due.of(LAND);
        due.bad("heights(6)", x, y -> y.heights(6));
        due.bad("heights(-1)", x, y -> y.heights(-1));
        due.bad("heights(max)", x, y -> y.heights(Due.MAX));
        due.bad("heights(min)", x, y -> y.heights(Due.MIN));
    }

    private static MovingHills played() {
        MovingHills x = Due.of(LAND);
        x.evening(1);
        x.frost(8);
        x.move(0, 2);
        x.evening(2);
        return x;
    }

    private static void keep(Due due) {
        MovingHills x = played();
        due.is("keep(1)", x.keep(1), 2);
        due.is("the LAND itself is as it was", x.undo(2), 0);
        due.heights("the LAND itself is as it was", x, 2, 3, 0, 0);
        x.undo(0);
        x.frost(1);
        x.move(0, 0);
        x.move(1, 0);
        x.evening(7);
        x.on(1);
        due.heights("HEIGHTS", x, 2, 3, 0, 0);
        due.tells("where BAND 0 is", x, x.band(0, 1), 1, 2);
        due.tells("where BAND 1 is", x, x.band(1, 1), 1, 3);
        due.tells("what BAND 0 MOVED", x, x.band(0, 4), 1, 2);
        due.tells("what BAND 1 MOVED", x, x.band(1, 4), 1, 0);
        due.is("EVENINGS", x.count(2), 2);
        due.is("FROST", x.frost(8), 8);
        due.is("they can be undone", x.undo(1), 1);
        due.heights("undo(1)", x, 1, 4, 0, 0);
        MovingHills same = played();
        same.keep(1);
        x.on(1);
        due.is("digest()", x.digest(), same.digest());
    }

    private static void keepPlaces(Due due) {
        for (int k = 0; k <= 2; k++) {
            MovingHills x = Due.of(LAND);
            due.is("keep(" + k + ") of none", x.keep(k), 0);
            due.is("kept LANDS", x.count(8), 1);
            x.evening(1);
            due.is("keep(" + k + ") anew", x.keep(k), 1);
            due.is("kept LANDS", x.count(8), 1);
            x.undo(0);
            due.is("the later one", x.on(k), 1);
        }
        MovingHills full = Due.evenings(LAND, 60);
        due.is("60 EVENINGS", full.keep(2), 60);
        full.undo(0);
        due.is("60 EVENINGS again", full.on(2), 60);
        due.is("asked() is not told", full.asked(), 0);
        keepAllEvenings(due);
    }

    /** Each of 60 EVENINGS of a kept LAND can be undone, though others were played meanwhile. */
    private static void keepAllEvenings(Due due) {
        String land = "g9999999999 b09 d91 t54";
        MovingHills x = Due.of(land);
        MovingHills same = Due.of(land);
        for (int e = 0; e < 60; e++) {
            x.evening(e * 7 % 27);
            same.evening(e * 7 % 27);
        }
        same.keep(1);
        x.keep(1);
        x.undo(0);
        for (int e = 0; e < 60; e++) x.evening(13);
        x.on(1);
        for (int n = 59; n >= 0; n--) {
            due.is("undo(" + n + ")", x.undo(n), same.undo(n));
            due.is("undo(" + n + "), digest()", x.digest(), same.digest());
        }
    }

    private static void keepRefused(Due due) {
        MovingHills x = Due.of(LAND);
        due.bad("keep(3)", x, y -> y.keep(3));
        due.bad("keep(-1)", x, y -> y.keep(-1));
        due.bad("keep(max)", x, y -> y.keep(Due.MAX));
        due.bad("keep(min)", x, y -> y.keep(Due.MIN));
        due.refused("keep(0) without SPOTS", new MovingHills(), Due.STATE, y -> y.keep(0));
        due.bad("BAD ahead of STATE", new MovingHills(), y -> y.keep(3));
        due.bad("BAD ahead of STATE", new MovingHills(), y -> y.keep(-1));
    }

    private static void on(Due due) {
        MovingHills x = Due.of(LAND);
        x.keep(0);
        x.evening(1);
        x.keep(1);
        x.evening(1);
        x.keep(2);
        for (int k : new int[] {0, 2, 1, 1, 0, 2}) {
            due.is("on(" + k + ")", x.on(k), k);
            due.heights("on(" + k + ")", x, k, 5 - k, 0, 0);
        }
        due.is("they stay kept", x.count(8), 3);
        x.evening(1);
        due.is("what is kept does not go on", x.on(2), 2);
        due.heights("what is kept does not go on", x, 2, 3, 0, 0);
        Due.fill(x, 0, 4, 5);
        x.on(0);
        due.row("ROWS stay", x, 0, 4, 5);
    }

    private static void onRefused(Due due) {
        MovingHills x = Due.of(LAND);
        x.evening(1);
        x.keep(1);
        due.bad("on(3)", x, y -> y.on(3));
        due.bad("on(-1)", x, y -> y.on(-1));
        due.bad("on(max)", x, y -> y.on(Due.MAX));
        due.bad("on(min)", x, y -> y.on(Due.MIN));
        due.found("on(0)", x, Due.NOTHING, y -> y.on(0));
        due.found("on(2)", x, Due.NOTHING, y -> y.on(2));
        due.found("without SPOTS", new MovingHills(), Due.NOTHING, y -> y.on(0));
    }
}
