/** Promises 10 to 16, sentence by sentence: faults, lands, spots, bands, marks, frost, moves. */
final class LandsSentences {
    private LandsSentences() {
    }

    static void run(Sentences s) {
        s.in("Promise 10");
        s.test("A FAULT of a TEXT;", LandsSentences::fault);
        s.test("NONE: there is none.", LandsSentences::noFault);
        s.test("BAD; NOTHING.", LandsSentences::faultRefused);
        s.in("Promise 11");
        s.test("A LAND by a TEXT (anew: no FROST, EVENINGS, claims;", LandsSentences::landAnew);
        s.test("kept LANDS go):", LandsSentences::keptGo);
        s.test("how many SPOTS.", LandsSentences::howManySpots);
        s.test("BAD; NOTHING; STATE: a FAULT.", LandsSentences::landRefused);
        s.test("(STATE behind NOTHING.)", LandsSentences::stateBehindNothing);
        s.in("Promise 12");
        s.test("The HEIGHT of a SPOT, told by asked(); 1, if there is FROST, else 0.", LandsSentences::spot);
        s.test("BAD.", LandsSentences::spotBad);
        s.in("Promise 13");
        s.test("Of a BAND: 0 the KIND, 1 the SPOT, 2 the LOUDNESS,", LandsSentences::bandIs);
        s.test("3 SPOTS on which it is HEARD (bits),", LandsSentences::bandHeard);
        s.test("4 how many inches it MOVED in all EVENINGS, told by asked(): 1.", LandsSentences::bandMoved);
        s.test("BAD.", LandsSentences::bandBad);
        s.in("Promise 14");
        s.test("What a BAND that IS of a KIND tells:", LandsSentences::markOfKinds);
        s.test("a DRUM (BIG DRUM, too) how many inches it would MOVE now by a MARCH,", LandsSentences::markDrum);
        s.test("a PIPE (ECHO, too) how many SPOTS on which it is HEARD are less than 2 high,", LandsSentences::markPipe);
        s.test("a CHOIR how many SPOTS are to the right of it,", LandsSentences::markChoir);
        s.test("a BIG DRUM how much farther it is HEARD than its LOUDNESS,", LandsSentences::markBigDrum);
        s.test("an ECHO how many inches it would MOVE now by a LULLABY.", LandsSentences::markEcho);
        s.test("BAD: also KIND 0;", LandsSentences::markBad);
        s.test("UNLIKE.", LandsSentences::markUnlike);
        s.in("Promise 15");
        s.test("FROST on SPOTS of a set, on no others: on which it was (bits).", LandsSentences::frost);
        s.test("BAD: also bits of SPOTS that there are not.", LandsSentences::frostBad);
        s.in("Promise 16");
        s.test("A BAND goes to a SPOT: where it was.", LandsSentences::move);
        s.test("BAD.", LandsSentences::moveBad);
    }

    /** A TEXT that is read may be any of four, and is no LAND by that. */
    private static void fault(Due due) {
        for (int t = 0; t <= 3; t++) {
            MovingHills x = new MovingHills();
            Due.write(x, t, "g12 b1");
            due.is("fault(" + t + ")", x.fault(t), 6);
            due.is("count(0)", x.count(0), 0);
            x.text(t, 80);
            due.is("fault(" + t + ") of 80 blanks", x.fault(t), 80);
            x.text(t, 0);
            due.is("fault(" + t + ") of none", x.fault(t), 0);
        }
    }

    private static void noFault(Due due) {
        MovingHills x = new MovingHills();
        Due.write(x, 3, "g12");
        due.is("fault(3)", x.fault(3), Due.NONE);
        x.text(3, 80);
        String land = "g1234567890 b99 t01 e55";
        for (int i = 0; i < land.length(); i++) x.put(3, 80 - land.length() + i, land.charAt(i));
        due.is("fault(3) of 80 bytes", x.fault(3), Due.NONE);
    }

    private static void faultRefused(Due due) {
        MovingHills x = Due.of("g12 b01");
        due.bad("fault(4)", x, y -> y.fault(4));
        due.bad("fault(-1)", x, y -> y.fault(-1));
        due.found("fault(1)", x, Due.NOTHING, y -> y.fault(1));
        due.found("fault(3)", x, Due.NOTHING, y -> y.fault(3));
    }

    private static void landAnew(Due due) {
        MovingHills x = Due.of("g3412 b01 d12");
        x.frost(15);
        x.evening(3);
        x.frost(5);
        x.evening(4);
        x.move(0, 3);
        x.row(2, 2);
        due.is("land(0) again", x.land(0), 4);
        MovingHills same = Due.of("g3412 b01 d12");
        same.row(2, 2);
        due.is("as a new one; ROWS, TEXTS stay", x.digest(), same.digest());
        due.is("EVENINGS", x.count(2), 0);
        due.is("FROST", x.frost(0), 0);
        due.is("nothing to undo", x.undo(0), 0);
        Due.write(x, 1, "g98");
        due.is("a smaller one", x.land(1), 2);
        due.heights("a smaller one", x, 9, 8);
        due.bad("no BANDS", x, y -> y.band(0, 0));
        due.is("a larger one", x.land(0), 4);
        due.heights("a larger one", x, 3, 4, 1, 2);
        due.is("BANDS", x.count(1), 2);
    }

    private static void keptGo(Due due) {
        MovingHills x = Due.of("g3412 b01 d12");
        for (int k = 0; k < 3; k++) x.keep(k);
        due.is("count(8)", x.count(8), 3);
        x.land(0);
        due.is("count(8) behind land()", x.count(8), 0);
        due.is("digest() behind land()", x.digest(), Due.of("g3412 b01 d12").digest());
        for (int k = 0; k < 3; k++) due.finds("on(" + k + ")", x, x.on(k), Due.NOTHING);
        x.evening(1);
        due.is("kept anew", x.keep(1), 1);
        due.is("count(8) then", x.count(8), 1);
        due.finds("on(0) then", x, x.on(0), Due.NOTHING);
    }

    private static void howManySpots(Due due) {
        for (int n = 2; n <= 10; n++) {
            MovingHills x = new MovingHills();
            Due.write(x, 2, " g" + "9876543210".substring(0, n) + " b01");
            due.is("land(2)", x.land(2), n);
            due.is("count(0)", x.count(0), n);
        }
    }

    private static void landRefused(Due due) {
        MovingHills x = Due.of("g3412 b01 d12");
        x.evening(1);
        x.frost(2);
        x.keep(1);
        Due.write(x, 1, "g12 b1");
        due.bad("land(4)", x, y -> y.land(4));
        due.bad("land(-1)", x, y -> y.land(-1));
        due.found("land(2)", x, Due.NOTHING, y -> y.land(2));
        due.refused("land(1)", x, Due.STATE, y -> y.land(1));
        x.text(1, 0);
        due.refused("land(1) of none", x, Due.STATE, y -> y.land(1));
        due.is("what is kept stays", x.on(1), 1);
        due.heights("what is kept stays", x, 4, 3, 1, 2);
    }

    private static void stateBehindNothing(Due due) {
        MovingHills x = new MovingHills();
        due.found("land(0)", x, Due.NOTHING, y -> y.land(0));
        x.text(0, 1);
        due.refused("land(0)", x, Due.STATE, y -> y.land(0));
    }

    private static void spot(Due due) {
        MovingHills x = Due.of("g9075312468");
        x.frost(1 + 512);
        due.tells("spot(0)", x, x.spot(0), 1, 9);
        due.tells("spot(1)", x, x.spot(1), 0, 0);
        due.tells("spot(8)", x, x.spot(8), 0, 6);
        due.tells("spot(9)", x, x.spot(9), 1, 8);
    }

    private static void spotBad(Due due) {
        MovingHills x = Due.of("g12");
        due.is("spot(1)", x.spot(1), 0);
        due.bad("spot(2)", x, y -> y.spot(2));
        due.bad("spot(-1)", x, y -> y.spot(-1));
        due.bad("spot(max)", x, y -> y.spot(Due.MAX));
        due.bad("spot(min)", x, y -> y.spot(Due.MIN));
        due.bad("spot(10) of 10", Due.of("g1234567890"), y -> y.spot(10));
        due.bad("spot(0) of none", new MovingHills(), y -> y.spot(0));
    }

    private static void bandIs(Due due) {
        MovingHills x = Due.of("g1234567890 b01 t99 e55");
        int[][] want = {{0, 0, 1}, {4, 9, 9}, {5, 5, 5}};
        for (int i = 0; i < 3; i++) {
            for (int what = 0; what < 3; what++) {
                due.tells("band(" + i + ", " + what + ")", x, x.band(i, what), 1, want[i][what]);
            }
        }
    }

    private static void bandHeard(Due due) {
        MovingHills x = Due.of("g1234567890 b02 t22 e95");
        due.tells("on the first SPOT", x, x.band(0, 3), 1, 2 + 4);
        due.tells("a BIG DRUM", x, x.band(1, 3), 1, 1 + 2 + 8 + 16 + 32 + 64);
        due.tells("on the last SPOT", x, x.band(2, 3), 1, 16 + 32 + 64 + 128 + 256);
        x.move(0, 9);
        due.tells("it has gone elsewhere", x, x.band(0, 3), 1, 128 + 256);
        x.frost(1023);
        due.tells("FROST does not keep from it", x, x.band(0, 3), 1, 128 + 256);
    }

    private static void bandMoved(Due due) {
        MovingHills x = Due.of("g0500 b01 d33");
        due.tells("none yet", x, x.band(0, 4), 1, 0);
        x.evening(1);
        x.evening(1);
        due.tells("two EVENINGS", x, x.band(0, 4), 1, 2);
        due.tells("the silent one", x, x.band(1, 4), 1, 0);
        x.evening(3);
        due.tells("another one", x, x.band(1, 4), 1, 4);
        due.tells("not by another one", x, x.band(0, 4), 1, 2);
        x.behind(4, 9, 0);
        x.flat(2, 0);
        x.mark(1, 1);
        due.tells("what is thought of does not count", x, x.band(1, 4), 1, 4);
        int ahead = x.asked();
        int inches = x.season(40, 7);
        x.band(0, 4);
        int first = x.asked();
        x.band(1, 4);
        due.is("a season, too", first + x.asked(), 2 + ahead + inches);
    }

    private static void bandBad(Due due) {
        MovingHills x = Due.of("g12 b01 d12");
        due.is("band(1, 4)", x.band(1, 4), 1);
        due.bad("band(2, 0)", x, y -> y.band(2, 0));
        due.bad("band(-1, 0)", x, y -> y.band(-1, 0));
        due.bad("band(0, 5)", x, y -> y.band(0, 5));
        due.bad("band(0, -1)", x, y -> y.band(0, -1));
        due.bad("band(max, max)", x, y -> y.band(Due.MAX, Due.MAX));
        due.bad("band(min, min)", x, y -> y.band(Due.MIN, Due.MIN));
        due.bad("band(3, 0) of 3", Due.of("g12b01b01b01"), y -> y.band(3, 0));
        due.bad("band(0, 0) of none", Due.of("g12"), y -> y.band(0, 0));
    }

    private static void markOfKinds(Due due) {
        MovingHills x = Due.of("g3003 t11 e11 c11");
        due.is("a BIG DRUM is a DRUM", x.mark(0, 1), 4);
        due.is("a BIG DRUM", x.mark(0, 4), 1);
        due.is("an ECHO is a PIPE", x.mark(1, 2), 1);
        due.is("an ECHO", x.mark(1, 5), 1);
        due.is("a CHOIR", x.mark(2, 3), 2);
        due.is("asked() is not told", x.asked(), 0);
        due.is("EVENINGS", x.count(2), 0);
        due.heights("nothing is MOVED", x, 3, 0, 0, 3);
    }

    private static void mark(Due due, String land, int frost, int kind, int want) {
        MovingHills x = Due.of(land);
        x.frost(frost);
        due.refused("mark(0, " + kind + ") of " + land + " with FROST " + frost, x, want, y -> y.mark(0, kind));
    }

    private static void markDrum(Due due) {
        mark(due, "g0000 d19", 0, 1, 0);
        mark(due, "g1000 d19", 0, 1, 1);
        mark(due, "g2000 d19", 0, 1, 2);
        mark(due, "g9000 d19", 0, 1, 2);
        mark(due, "g9999 d11", 0, 1, 4);
        mark(due, "g9999 d19", 0, 1, 6);
        mark(due, "g9999 d19", 1, 1, 4);
        mark(due, "g9999 d19", 15, 1, 0);
        mark(due, "g9099 d12", 2, 1, 6);
        mark(due, "g90009 t22", 0, 1, 4);
        mark(due, "g900009 t31", 0, 1, 2);
    }

    private static void markPipe(Due due) {
        mark(due, "g0123 p39", 0, 2, 2);
        mark(due, "g2222 p39", 0, 2, 0);
        mark(due, "g1111 p39", 0, 2, 3);
        mark(due, "g0000 p12", 0, 2, 3);
        mark(due, "g0000 p11", 0, 2, 2);
        mark(due, "g0000 p01", 0, 2, 1);
        mark(due, "g0000 e39", 15, 2, 3);
    }

    private static void markChoir(Due due) {
        mark(due, "g0000 c31", 0, 3, 0);
        mark(due, "g0000 c21", 0, 3, 1);
        mark(due, "g0000 c01", 15, 3, 3);
        mark(due, "g1234567890 c01", 0, 3, 9);
    }

    private static void markBigDrum(Due due) {
        mark(due, "g00 t01", 0, 4, 1);
        mark(due, "g00 t19", 3, 4, 9);
    }

    private static void markEcho(Due due) {
        mark(due, "g1111 e19", 0, 5, 0);
        mark(due, "g2222 e19", 0, 5, 3);
        mark(due, "g2222 e11", 0, 5, 2);
        mark(due, "g2000 e39", 0, 5, 1);
        mark(due, "g2000 e39", 1, 5, 0);
        mark(due, "g0002 e09", 0, 5, 1);
    }

    private static void markBad(Due due) {
        MovingHills x = Due.of("g12 e01 t12");
        due.is("mark(0, 5)", x.mark(0, 5), 1);
        due.bad("mark(0, 0)", x, y -> y.mark(0, 0));
        due.bad("mark(0, 6)", x, y -> y.mark(0, 6));
        due.bad("mark(0, -1)", x, y -> y.mark(0, -1));
        due.bad("mark(2, 1)", x, y -> y.mark(2, 1));
        due.bad("mark(-1, 1)", x, y -> y.mark(-1, 1));
        due.bad("mark(max, max)", x, y -> y.mark(Due.MAX, Due.MAX));
        due.bad("mark(min, min)", x, y -> y.mark(Due.MIN, Due.MIN));
        due.bad("without SPOTS", new MovingHills(), y -> y.mark(0, 1));
    }

    private static void markUnlike(Due due) {
        String letters = "bdpcte";
        int[] is = {0, 1 << 1, 1 << 2, 1 << 3, 1 << 1 | 1 << 4, 1 << 2 | 1 << 5};
        for (int own = 0; own < 6; own++) {
            MovingHills x = Due.of("g22 " + letters.charAt(own) + "01");
            for (int kind = 1; kind <= 5; kind++) {
                int asked = kind;
                String what = letters.charAt(own) + " as KIND " + kind;
                if ((is[own] >> kind & 1) == 0) due.found(what, x, Due.UNLIKE, y -> y.mark(0, asked));
                else due.holds(what, x.mark(0, kind) >= 0);
            }
        }
    }

    private static void frost(Due due) {
        MovingHills x = Due.of("g1234567890");
        due.is("frost(1023)", x.frost(1023), 0);
        due.is("count(4)", x.count(4), 10);
        due.is("frost(512)", x.frost(512), 1023);
        due.is("count(4)", x.count(4), 1);
        due.is("SPOT 9", x.spot(9), 1);
        due.is("SPOT 8", x.spot(8), 0);
        due.is("frost(1)", x.frost(1), 512);
        due.is("SPOT 9, not any more", x.spot(9), 0);
        due.is("SPOT 0", x.spot(0), 1);
        due.is("frost(0)", x.frost(0), 1);
        due.is("count(4)", x.count(4), 0);
        due.is("without SPOTS", new MovingHills().frost(0), 0);
    }

    private static void frostBad(Due due) {
        String all = "g1234567890";
        for (int n = 2; n <= 10; n++) {
            int many = 1 << n;
            MovingHills x = Due.of(all.substring(0, n + 1));
            due.is("frost(" + (many - 1) + ")", x.frost(many - 1), 0);
            due.bad("frost(" + many + ")", x, y -> y.frost(many));
            due.bad("frost(" + (many + 1) + ")", x, y -> y.frost(many + 1));
            due.bad("frost(-1)", x, y -> y.frost(-1));
            due.bad("frost(min)", x, y -> y.frost(Due.MIN));
            due.bad("frost(max)", x, y -> y.frost(Due.MAX));
        }
        due.bad("frost(1) without SPOTS", new MovingHills(), y -> y.frost(1));
        due.bad("frost(-1) without SPOTS", new MovingHills(), y -> y.frost(-1));
    }

    private static void move(Due due) {
        MovingHills x = Due.of("g1234567890 b41 t09");
        due.is("to the last SPOT", x.move(0, 9), 4);
        due.is("to the first SPOT", x.move(0, 0), 9);
        due.is("to where it is", x.move(0, 0), 0);
        due.tells("it is there", x, x.band(0, 1), 1, 0);
        due.tells("the other one stays", x, x.band(1, 1), 1, 0);
        due.is("to where another one is", x.move(1, 0), 0);
        due.is("asked() is not told", x.asked(), 0);
        due.is("EVENINGS", x.count(2), 0);
    }

    private static void moveBad(Due due) {
        MovingHills x = Due.of("g123 b01 d11");
        due.is("move(1, 2)", x.move(1, 2), 1);
        due.bad("move(2, 0)", x, y -> y.move(2, 0));
        due.bad("move(-1, 0)", x, y -> y.move(-1, 0));
        due.bad("move(0, 3)", x, y -> y.move(0, 3));
        due.bad("move(0, -1)", x, y -> y.move(0, -1));
        due.bad("move(max, max)", x, y -> y.move(Due.MAX, Due.MAX));
        due.bad("move(min, min)", x, y -> y.move(Due.MIN, Due.MIN));
        due.bad("without SPOTS", new MovingHills(), y -> y.move(0, 0));
    }
}
