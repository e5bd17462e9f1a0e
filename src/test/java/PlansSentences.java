/** Promises 27 to 30, sentence by sentence: what to play. */
final class PlansSentences {
    private PlansSentences() {
    }

    static void run(Sentences s) {
        s.in("Promise 27");
        s.test("The fewest EVENINGS (3 at most) behind which all SPOTS of a set are 0 high;", PlansSentences::fewest);
        s.test("of alike ones of least BREATH together,", PlansSentences::leastBreath);
        s.test("then the first:", PlansSentences::flatFirst);
        s.test("their PROGRAMS come to a ROW (anew): how many; BREATH by asked().", PlansSentences::flatRow);
        s.test("NONE: not by 3.", PlansSentences::notBy3);
        s.test("BAD; STATE: no SPOTS.", PlansSentences::flatRefused);
        s.in("Promise 28");
        s.test("The least BREATH of n (0 .. 3) EVENINGS behind which a SPOT is no lower than v (0 .. 99)",
            PlansSentences::raise);
        s.test("(of alike ones the first):", PlansSentences::raiseFirst);
        s.test("their PROGRAMS come to a ROW (anew): BREATH.", PlansSentences::raiseRow);
        s.test("NONE: none.", PlansSentences::raiseNone);
        s.test("BAD.", PlansSentences::raiseBad);
        s.in("Promise 29");
        s.test("The most BREATH of one EVENING behind which a SPOT is as high as now;", PlansSentences::keeps);
        s.test("the PROGRAM (of alike ones the first) by asked().", PlansSentences::keepsFirst);
        s.test("BAD.", PlansSentences::keepsBad);
        s.in("Promise 30");
        s.test("Two rivals: one BAND wants a SPOT high, another one wants it low, by turns for n (0 .. 6) EVENINGS,",
            PlansSentences::turns);
        s.test("the first one first", PlansSentences::firstOneFirst);
        s.test("(all others silent; in its EVENING a BAND plays alone, 0 to 2):", PlansSentences::othersSilent);
        s.test("how high it is at last, both as well as can be;", PlansSentences::bothWell);
        s.test("the first one's first TUNE (the least of alike ones; 0, if n is 0) by asked().",
            PlansSentences::firstTune);
        s.test("BAD: also the same BAND.", PlansSentences::rivalsBad);
    }

    private static void flat(Due due, String land, int set, int breath, int... programs) {
        MovingHills x = Due.of(land);
        due.tells("flat(" + set + ") of " + land, x, x.flat(set, 5), programs.length, breath);
        due.row("flat(" + set + ") of " + land, x, 5, programs);
        due.is("it is aside", x.count(2), 0);
    }

    private static void fewest(Due due) {
        flat(due, "g05 b11", 0, 0);
        flat(due, "g05 b11", 1, 0);
        flat(due, "g10 b11", 1, 1, 1);
        flat(due, "g20 b11", 1, 2, 1, 1);
        flat(due, "g30 b11", 1, 3, 1, 1, 1);
        flat(due, "g60 d11", 1, 3, 1, 1, 1);
        flat(due, "g0000000000", 1023, 0);
        flat(due, "g1000000000 b91 b11", 1 + 4 + 512, 1, 3);
        flat(due, "g0100000010 b01 b91", 2 + 256, 2, 4);
        flat(due, "g030 b01 b01 b01", 1 + 2, 3, 26);
        // One EVENING of much BREATH is ahead of two of less.
        flat(due, "g0200 d09 b01", 2, 9, 1);
        flat(due, "g040 d01 b02 b23", 2, 6, 17);
        MovingHills full = Due.evenings("g30 b11", 60);
        due.is("behind 60 EVENINGS", full.flat(1, 0), 3);
    }

    private static void leastBreath(Due due) {
        flat(due, "g010 b09 b21", 2, 1, 3);
        flat(due, "g010 b21 b09", 2, 1, 1);
        flat(due, "g020 d03 b01 b21", 2, 2, 3 + 9);
        flat(due, "g030 d01 b02 b23", 2, 3, 4);
        flat(due, "g040 d02 b01", 2, 4, 1, 1);
        flat(due, "g050 d03 b01", 2, 7, 1, 4);
    }

    private static void flatFirst(Due due) {
        flat(due, "g010 b01", 2, 1, 1);
        flat(due, "g010 b01 b01 b01", 2, 1, 1);
        flat(due, "g020 b01", 2, 2, 1, 1);
        flat(due, "g010 e01 b01", 2, 1, 3);
        // 4 1 and 4 2 have the same BREATH, and so has 1 5.
        flat(due, "g050 d01 b01", 2, 3, 1, 4);
    }

    private static void flatRow(Due due) {
        for (int r = 0; r <= 5; r++) {
            MovingHills x = Due.of("g20 b11");
            if (r % 2 == 0) Due.fill(x, r, 9, 9, 9, 9, 9);
            due.tells("flat(1, " + r + ")", x, x.flat(1, r), 2, 2);
            due.row("flat(1, " + r + ")", x, r, 1, 1);
            due.tells("flat(0, " + r + ")", x, x.flat(0, r), 0, 0);
            due.row("flat(0, " + r + ")", x, r);
            due.is("ROWS", x.count(6), 1);
        }
    }

    private static void notBy3(Due due) {
        due.refused("4 inches", Due.of("g40 b11"), Due.NONE, x -> x.flat(1, 0));
        due.refused("7 inches", Due.of("g70 d11"), Due.NONE, x -> x.flat(1, 0));
        due.refused("all of them", Due.of("g10 b11"), Due.NONE, x -> x.flat(3, 0));
        due.refused("one inch that a PIPE leaves", Due.of("g10 p11"), Due.NONE, x -> x.flat(1, 0));
        due.refused("without BANDS", Due.of("g10"), Due.NONE, x -> x.flat(1, 0));
        due.refused("4 SPOTS off", Due.of("g00001 b01"), Due.NONE, x -> x.flat(16, 0));
        MovingHills cold = Due.of("g10 b11");
        cold.frost(1);
        Due.fill(cold, 0, 7, 8);
        due.refused("FROST", cold, Due.NONE, x -> x.flat(1, 0));
        due.row("the ROW is as it was", cold, 0, 7, 8);
    }

    private static void flatRefused(Due due) {
        MovingHills x = Due.of("g123 b11");
        due.bad("flat(8, 0)", x, y -> y.flat(8, 0));
        due.bad("flat(-1, 0)", x, y -> y.flat(-1, 0));
        due.bad("flat(max, 0)", x, y -> y.flat(Due.MAX, 0));
        due.bad("flat(min, 0)", x, y -> y.flat(Due.MIN, 0));
        due.bad("flat(0, 6)", x, y -> y.flat(0, 6));
        due.bad("flat(0, -1)", x, y -> y.flat(0, -1));
        due.bad("flat(1024, 0) of 10", Due.of("g1234567890"), y -> y.flat(1024, 0));
        due.refused("flat(0, 0) without SPOTS", new MovingHills(), Due.STATE, y -> y.flat(0, 0));
        due.bad("BAD ahead of STATE: flat(1, 0)", new MovingHills(), y -> y.flat(1, 0));
        due.bad("BAD ahead of STATE: flat(0, 6)", new MovingHills(), y -> y.flat(0, 6));
    }

    private static void raise(Due due, String land, int x, int v, int breath, int... programs) {
        MovingHills hills = Due.of(land);
        hills.spot(0);
        int asked = hills.asked();
        String what = "raise(" + x + ", " + v + ", " + programs.length + ") of " + land;
        due.is(what, hills.raise(x, v, programs.length, 5), breath);
        due.row(what, hills, 5, programs);
        MovingHills again = Due.of(land);
        again.spot(0);
        again.raise(x, v, programs.length, 5);
        due.is("asked() is not told", again.asked(), asked);
        due.is("it is aside", again.count(2), 0);
    }

    private static void raise(Due due) {
        raise(due, "g19 b01", 0, 0, 0);
        raise(due, "g19 b01", 0, 1, 0);
        raise(due, "g19 b01", 0, 1, 0, 0);
        raise(due, "g19 b01", 0, 2, 1, 1);
        raise(due, "g19 b01", 0, 3, 2, 1, 1);
        raise(due, "g19 b01", 0, 4, 3, 1, 1, 1);
        raise(due, "g19 b01", 0, 2, 1, 0, 0, 1);
        raise(due, "g19 b01", 1, 9, 0, 0, 0, 0);
        raise(due, "g09 b09 b01", 0, 1, 1, 3);
        raise(due, "g09 b09 b01", 0, 2, 2, 3, 3);
        raise(due, "g09 b09 b01", 0, 2, 10, 4);
        raise(due, "g303 b11", 1, 2, 1, 1);
        raise(due, "g303 b11", 1, 4, 2, 1, 1);
        raise(due, "g303 b11", 1, 6, 3, 1, 1, 1);
        raise(due, "g40 t11", 1, 2, 1, 1);
        raise(due, "g040 t01", 2, 2, 1, 2);
        raise(due, "g030 b01 b01 b01", 2, 3, 3, 26);
        MovingHills heap = AsideSentences.heap();
        due.is("90 high", heap.raise(0, 90, 3, 0), 0);
        due.is("91 high", heap.raise(0, 91, 3, 0), Due.NONE);
        due.is("99 high", heap.raise(0, 99, 3, 0), Due.NONE);
        MovingHills both = Due.of("g19 b01");
        due.is("flat(1, 1) ahead of it", both.flat(1, 1), Due.NONE);
        due.is("raise(0, 2, 1, 0) behind flat()", both.raise(0, 2, 1, 0), 1);
        due.is("flat(1, 1) behind it", both.flat(1, 1), Due.NONE);
        due.is("raise(0, 1, 0, 0) behind flat()", both.raise(0, 1, 0, 0), 0);
        MovingHills full = Due.evenings("g19 b01", 60);
        due.is("behind 60 EVENINGS", full.raise(0, 4, 3, 0), 3);
    }

    private static void raiseFirst(Due due) {
        raise(due, "g09 b01 b01 b01", 0, 1, 1, 1);
        raise(due, "g09 b01 b01 b01", 0, 2, 2, 4);
        raise(due, "g09 b01 b01 b01", 0, 2, 2, 0, 4);
        raise(due, "g09 b01 b01 b01", 0, 3, 3, 0, 13);
        raise(due, "g09 b01 b01 b01", 0, 3, 3, 0, 0, 13);
        raise(due, "g09 b01 b01 b01", 0, 4, 4, 1, 13);
    }

    private static void raiseRow(Due due) {
        for (int r = 0; r <= 5; r++) {
            MovingHills x = Due.of("g19 b01");
            if (r % 2 == 0) Due.fill(x, r, 9, 9, 9, 9, 9);
            due.is("raise(0, 3, 2, " + r + ")", x.raise(0, 3, 2, r), 2);
            due.row("raise(0, 3, 2, " + r + ")", x, r, 1, 1);
            due.is("raise(0, 0, 0, " + r + ")", x.raise(0, 0, 0, r), 0);
            due.row("raise(0, 0, 0, " + r + ")", x, r);
            due.is("ROWS", x.count(6), 1);
        }
    }

    private static void raiseNone(Due due) {
        MovingHills x = Due.of("g19 b01");
        Due.fill(x, 0, 7, 8);
        due.refused("2 by none", x, Due.NONE, y -> y.raise(0, 2, 0, 0));
        due.refused("3 by one", x, Due.NONE, y -> y.raise(0, 3, 1, 0));
        due.refused("5 by three", x, Due.NONE, y -> y.raise(0, 5, 3, 0));
        due.refused("10 where none comes", x, Due.NONE, y -> y.raise(1, 10, 3, 0));
        due.row("the ROW is as it was", x, 0, 7, 8);
    }

    private static void raiseBad(Due due) {
        MovingHills x = Due.of("g19 b01");
        due.is("v is 99", x.raise(0, 99, 0, 0), Due.NONE);
        due.bad("v is 100", x, y -> y.raise(0, 100, 0, 0));
        due.bad("v is -1", x, y -> y.raise(0, -1, 0, 0));
        due.bad("n is 4", x, y -> y.raise(0, 0, 4, 0));
        due.bad("n is -1", x, y -> y.raise(0, 0, -1, 0));
        due.bad("SPOT 2", x, y -> y.raise(2, 0, 0, 0));
        due.bad("SPOT -1", x, y -> y.raise(-1, 0, 0, 0));
        due.bad("ROW 6", x, y -> y.raise(0, 0, 0, 6));
        due.bad("ROW -1", x, y -> y.raise(0, 0, 0, -1));
        due.bad("all the most", x, y -> y.raise(Due.MAX, Due.MAX, Due.MAX, Due.MAX));
        due.bad("all the least", x, y -> y.raise(Due.MIN, Due.MIN, Due.MIN, Due.MIN));
        due.bad("without SPOTS", new MovingHills(), y -> y.raise(0, 0, 0, 0));
    }

    private static void keeps(Due due, String land, int x, int breath, int program) {
        MovingHills hills = Due.of(land);
        due.tells("keeps(" + x + ") of " + land, hills, hills.keeps(x), breath, program);
        due.is("it is aside", hills.count(2), 0);
    }

    private static void keeps(Due due) {
        keeps(due, "g90", 0, 0, 0);
        keeps(due, "g090 b01", 1, 0, 0);
        keeps(due, "g090 b01 d25", 1, 0, 0);
        keeps(due, "g030 b05", 0, 5, 2);
        keeps(due, "g0900 b05 d39", 1, 0, 0);
        keeps(due, "g09 b01 b15", 1, 6, 4);
        // The inch is on SPOT 1 behind one EVENING; it would come to SPOT 0 by a second one.
        keeps(due, "g001 b09", 0, 9, 1);
        keeps(due, "g0100 b09", 3, 9, 1);
        keeps(due, "g000 b09 b09 b09", 1, 27, 13);
        MovingHills heap = AsideSentences.heap();
        due.tells("a heap", heap, heap.keeps(0), 27, 13);
    }

    private static void keepsFirst(Due due) {
        keeps(due, "g000 b05", 1, 5, 1);
        keeps(due, "g000 b05 b05", 1, 10, 4);
        keeps(due, "g000 b05 b15 b25", 0, 15, 13);
        keeps(due, "g200 b15", 0, 5, 2);
        keeps(due, "g002 b15", 0, 5, 1);
        // The inch that comes to SPOT 0 by BAND 0 goes again by the DRUM.
        keeps(due, "g0900 b05 d25", 0, 10, 4);
    }

    private static void keepsBad(Due due) {
        MovingHills x = Due.of("g12 b01");
        due.holds("keeps(1)", x.keeps(1) >= 0);
        due.bad("keeps(2)", x, y -> y.keeps(2));
        due.bad("keeps(-1)", x, y -> y.keeps(-1));
        due.bad("keeps(max)", x, y -> y.keeps(Due.MAX));
        due.bad("keeps(min)", x, y -> y.keeps(Due.MIN));
        due.bad("without SPOTS", new MovingHills(), y -> y.keeps(0));
    }

    private static final int[] PLACE_VALUE = {1, 3, 9};

    /** How high it is at last by true EVENINGS: TUNES of some turns are told, the rest is thought of. */
    private static int atLast(String land, int i, int j, int x, int n, int... tunes) {
        if (tunes.length < n) {
            boolean up = tunes.length % 2 == 0;
            int best = up ? -1 : 1000;
            for (int tune = 0; tune <= 2; tune++) {
                int[] more = java.util.Arrays.copyOf(tunes, tunes.length + 1);
                more[tunes.length] = tune;
                int high = atLast(land, i, j, x, n, more);
                best = up ? Math.max(best, high) : Math.min(best, high);
            }
            return best;
        }
        MovingHills hills = Due.of(land);
        for (int turn = 0; turn < n; turn++) hills.evening(tunes[turn] * PLACE_VALUE[turn % 2 == 0 ? i : j]);
        hills.spot(x);
        return hills.asked();
    }

    private static void rivals(Due due, String land, int i, int j, int x, int n) {
        MovingHills hills = Due.of(land);
        int high = atLast(land, i, j, x, n);
        int tune = 0;
        while (n > 0 && atLast(land, i, j, x, n, tune) != high) tune++;
        String what = "rivals(" + i + ", " + j + ", " + x + ", " + n + ") of " + land;
        due.tells(what, hills, hills.rivals(i, j, x, n), high, tune);
        due.is("it is aside", hills.count(2), 0);
    }

    private static void turns(Due due) {
        for (int n = 0; n <= 6; n++) {
            rivals(due, "g05340 b12 d31 p04", 0, 1, 2, n);
            rivals(due, "g05340 b12 d31 p04", 1, 0, 2, n);
        }
        MovingHills x = Due.of("g0900 b01 b31");
        due.tells("n is 6: by three turns", x, x.rivals(0, 1, 0, 6), 3, 1);
        due.tells("n is 5: by three turns", x, x.rivals(0, 1, 0, 5), 3, 1);
        due.tells("n is 4: by two turns", x, x.rivals(0, 1, 0, 4), 2, 1);
        MovingHills full = Due.evenings("g0900 b01 b31", 60);
        due.tells("behind 60 EVENINGS", full, full.rivals(0, 1, 0, 6), 3, 1);
    }

    private static void firstOneFirst(Due due) {
        MovingHills x = Due.of("g0100 b01 b31");
        due.tells("it has one turn", x, x.rivals(0, 1, 0, 1), 1, 1);
        due.tells("the other one has none yet", x, x.rivals(1, 0, 1, 1), 1, 0);
        due.tells("then it is the other one's", x, x.rivals(1, 0, 1, 2), 0, 0);
    }

    private static void othersSilent(Due due) {
        MovingHills x = Due.of("g090 b11 d21 t01");
        due.tells("neither of those two can help it", x, x.rivals(0, 1, 0, 1), 0, 0);
        due.tells("by 2 inches", x, x.rivals(2, 0, 0, 1), 2, 1);
        MovingHills y = Due.of("g090 d01 b01 b21");
        due.tells("a LULLABY, too", y, y.rivals(0, 1, 2, 1), 2, 2);
        due.tells("silence, too", y, y.rivals(0, 1, 1, 1), 9, 0);
    }

    private static void bothWell(Due due) {
        String[] lands = {"g3142 b01 e31 d12", "g0550 d11 b22 c03", "g9090 t11 p31 e12", "g1234 c01 d31 t21"};
        for (String land : lands) {
            for (int x = 0; x < 4; x++) {
                rivals(due, land, x % 3, (x + 1) % 3, x, 3);
                rivals(due, land, (x + 2) % 3, x % 3, x, 4);
            }
        }
    }

    private static void firstTune(Due due) {
        MovingHills x = Due.of("g0900 b01 b31");
        x.spot(1);
        due.tells("n is 0", x, x.rivals(0, 1, 1, 0), 9, 0);
        due.tells("alike: silence", x, x.rivals(0, 1, 3, 1), 0, 0);
        due.tells("a MARCH", x, x.rivals(0, 1, 0, 1), 1, 1);
        due.tells("a LULLABY", x, x.rivals(0, 1, 2, 1), 1, 2);
        due.tells("n is 0, behind others", x, x.rivals(0, 1, 2, 0), 0, 0);
        MovingHills y = Due.of("g0010 b31 b21");
        due.tells("alike ones: 0 ahead of 1 and 2", y, y.rivals(0, 1, 0, 2), 0, 0);
    }

    private static void rivalsBad(Due due) {
        MovingHills x = Due.of("g12 b01 d11");
        due.holds("the last of all", x.rivals(1, 0, 1, 6) >= 0);
        due.bad("BAND 0 twice", x, y -> y.rivals(0, 0, 0, 1));
        due.bad("BAND 1 twice", x, y -> y.rivals(1, 1, 0, 0));
        due.bad("BAND 2", x, y -> y.rivals(2, 0, 0, 1));
        due.bad("BAND 2 as the other one", x, y -> y.rivals(0, 2, 0, 1));
        due.bad("BAND -1", x, y -> y.rivals(-1, 0, 0, 1));
        due.bad("BAND -1 as the other one", x, y -> y.rivals(0, -1, 0, 1));
        due.bad("SPOT 2", x, y -> y.rivals(0, 1, 2, 1));
        due.bad("SPOT -1", x, y -> y.rivals(0, 1, -1, 1));
        due.bad("n is 7", x, y -> y.rivals(0, 1, 0, 7));
        due.bad("n is -1", x, y -> y.rivals(0, 1, 0, -1));
        due.bad("all the most", x, y -> y.rivals(Due.MAX, Due.MAX - 1, Due.MAX, Due.MAX));
        due.bad("all the least", x, y -> y.rivals(Due.MIN, Due.MIN + 1, Due.MIN, Due.MIN));
        due.bad("one BAND alone", Due.of("g12 b01"), y -> y.rivals(0, 1, 0, 1));
        due.bad("without SPOTS", new MovingHills(), y -> y.rivals(0, 1, 0, 0));
    }
}
