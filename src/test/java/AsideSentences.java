/** Promises 22 to 26, sentence by sentence: what comes of a program, aside. */
final class AsideSentences {
    private static final String LAND = "g0500 b02 d31";

    private AsideSentences() {
    }

    static void run(Sentences s) {
        s.in("Promise 22");
        s.test("The HEIGHT of a SPOT behind n (0 .. 60) EVENINGS by a PROGRAM;", AsideSentences::behind);
        s.test("how many inches were MOVED in these by asked().", AsideSentences::behindMoved);
        s.test("BAD.", AsideSentences::behindBad);
        s.in("Promise 23");
        s.test("The least number (0 .. 100) of EVENINGS by a PROGRAM", AsideSentences::rest);
        s.test("behind which one more does not change the HEIGHTS;", AsideSentences::restOfHeights);
        s.test("the HEIGHT of the highest SPOT then by asked()", AsideSentences::restHighest);
        s.test("(0 without SPOTS).", AsideSentences::restWithoutSpots);
        s.test("NONE: none so small.", AsideSentences::restOfHeaps);
        s.test("BAD.", AsideSentences::restBad);
        s.in("Promise 24");
        s.test("After how many EVENINGS (1 .. 100) by a PROGRAM all HEIGHTS are as now again.", AsideSentences::round);
        s.test("NONE.", AsideSentences::roundNone);
        s.test("BAD.", AsideSentences::roundBad);
        s.in("Promise 25");
        s.test("Which PROGRAM of one EVENING makes a SPOT highest (the first);", AsideSentences::highest);
        s.test("how high by asked().", AsideSentences::highestHow);
        s.test("BAD.", due -> spotBad(due, true));
        s.in("Promise 26");
        s.test("Which one makes it lowest (the first);", AsideSentences::lowest);
        s.test("how high it is then by asked().", AsideSentences::lowestHow);
        s.test("BAD.", due -> spotBad(due, false));
    }

    /** All 90 inches that there can be on SPOT 0; BAND 0 is on the last SPOT, HEARD everywhere. */
    static MovingHills heap() {
        MovingHills x = Due.of("g9999999999 b09 d09 t09");
        for (int e = 0; e < 40; e++) x.evening(1 + 3 + 9);
        x.move(0, 9);
        return x;
    }

    private static void behind(Due due) {
        MovingHills x = heap();
        due.heights("a heap", x, 90, 0, 0, 0, 0, 0, 0, 0, 0, 0);
        due.is("n is 0", x.behind(1, 0, 0), 90);
        due.is("n is 1", x.behind(1, 1, 0), 89);
        due.is("n is 1, SPOT 1", x.behind(1, 1, 1), 1);
        due.is("n is 8: none is there yet", x.behind(1, 8, 9), 0);
        due.is("n is 9: the first one", x.behind(1, 9, 9), 1);
        due.is("n is 59", x.behind(1, 59, 9), 51);
        due.is("n is 60", x.behind(1, 60, 9), 52);
        due.is("n is 60, SPOT 0", x.behind(1, 60, 0), 30);
        due.is("it is aside", x.count(2), 40);
        due.heights("it is aside", x, 90, 0, 0, 0, 0, 0, 0, 0, 0, 0);
        MovingHills full = Due.evenings(LAND, 60);
        due.is("60 of 60", full.behind(1, 60, 0), 5);
        due.is("60 of 60 still", full.count(2), 60);
    }

    private static void behindMoved(Due due) {
        MovingHills x = heap();
        due.tells("n is 0", x, x.behind(1, 0, 0), 90, 0);
        due.tells("n is 1", x, x.behind(1, 1, 0), 89, 1);
        due.tells("n is 3", x, x.behind(1, 3, 0), 87, 1 + 2 + 3);
        due.tells("n is 60", x, x.behind(1, 60, 0), 30, 36 + 52 * 9);
        MovingHills back = Due.of("g09 b01 b11");
        due.tells("to and fro", back, back.behind(4, 60, 1), 9, 120);
    }

    private static void behindBad(Due due) {
        MovingHills x = Due.of(LAND);
        due.is("the last of all", x.behind(8, 60, 3), 0);
        due.bad("behind(9, 0, 0)", x, y -> y.behind(9, 0, 0));
        due.bad("behind(-1, 0, 0)", x, y -> y.behind(-1, 0, 0));
        due.bad("behind(0, 61, 0)", x, y -> y.behind(0, 61, 0));
        due.bad("behind(0, -1, 0)", x, y -> y.behind(0, -1, 0));
        due.bad("behind(0, 0, 4)", x, y -> y.behind(0, 0, 4));
        due.bad("behind(0, 0, -1)", x, y -> y.behind(0, 0, -1));
        due.bad("behind(max, max, max)", x, y -> y.behind(Due.MAX, Due.MAX, Due.MAX));
        due.bad("behind(min, min, min)", x, y -> y.behind(Due.MIN, Due.MIN, Due.MIN));
        due.bad("without SPOTS", new MovingHills(), y -> y.behind(0, 0, 0));
    }

    private static void rest(Due due) {
        MovingHills x = Due.of(LAND);
        due.is("silence", x.rest(0), 0);
        due.is("a MARCH of 5 inches by 1 SPOT", x.rest(1), 5);
        due.is("a LULLABY of 5 inches by 2 SPOTS", x.rest(2), 6);
        due.is("it is aside", x.count(2), 0);
        MovingHills one = Due.of("g01 b01");
        due.is("one", one.rest(1), 1);
        due.is("at once", one.rest(2), 0);
    }

    private static void restOfHeights(Due due) {
        MovingHills x = Due.of("g09 b01 b11");
        due.tells("to and fro at once", x, x.rest(4), 0, 9);
        MovingHills y = Due.of("g03 b01 b11");
        due.is("one way", y.rest(1), 3);
        due.is("the other way", y.rest(3), 0);
        y.frost(2);
        due.is("FROST", y.rest(1), 0);
    }

    private static void restHighest(Due due) {
        MovingHills x = Due.of("g40302 b01 b41");
        due.tells("at rest now", x, x.rest(0), 0, 4);
        MovingHills y = Due.of("g0123 b09");
        due.tells("all on SPOT 0", y, y.rest(1), 6, 6);
        due.tells("all on the last SPOT", y, y.rest(2), 3, 6);
        MovingHills z = Due.of("g3030 b11");
        due.tells("where it goes to", z, z.rest(1), 3, 6);
        MovingHills flat = Due.of("g00 b01");
        due.tells("none", flat, flat.rest(1), 0, 0);
    }

    private static void restWithoutSpots(Due due) {
        MovingHills x = new MovingHills();
        Due.fill(x, 0, 7);
        x.at(0, 0);
        due.tells("rest(0)", x, x.rest(0), 0, 0);
    }

    /** No longer way to rest than these 98 is known: NOTES.md says why NONE is not to be seen. */
    private static void restOfHeaps(Due due) {
        MovingHills x = heap();
        due.tells("90 inches by 9 SPOTS, one by one", x, x.rest(1), 98, 90);
        due.tells("by LULLABIES they stay", x, x.rest(2), 0, 90);
        x.move(1, 9);
        due.tells("90 inches by 9 SPOTS, two by two", x, x.rest(3), 53, 90);
        due.tells("three by three, some by 2 SPOTS", x, x.rest(4), 36, 90);
        x.move(0, 8);
        due.tells("by 8 SPOTS", x, x.rest(1), 97, 90);
    }

    private static void restBad(Due due) {
        MovingHills x = Due.of(LAND);
        due.is("rest(8)", x.rest(8) >= 0 ? 0 : 1, 0);
        due.bad("rest(9)", x, y -> y.rest(9));
        due.bad("rest(-1)", x, y -> y.rest(-1));
        due.bad("rest(max)", x, y -> y.rest(Due.MAX));
        due.bad("rest(min)", x, y -> y.rest(Due.MIN));
        due.bad("rest(1) without SPOTS", new MovingHills(), y -> y.rest(1));
        due.bad("rest(-1) without SPOTS", new MovingHills(), y -> y.rest(-1));
        due.is("rest(0) without BANDS", Due.of("g12").rest(0), 0);
        due.bad("rest(1) without BANDS", Due.of("g12"), y -> y.rest(1));
    }

    private static void round(Due due) {
        due.is("silence", Due.of(LAND).round(0), 1);
        due.is("nothing to MOVE", Due.of("g50 b01").round(1), 1);
        due.is("to and fro", Due.of("g09 b01 b11").round(4), 1);
        due.is("without BANDS", Due.of("g12").round(0), 1);
        due.is("without SPOTS", new MovingHills().round(0), 1);
        MovingHills x = heap();
        x.spot(0);
        due.is("a heap that stays", x.round(2), 1);
        due.is("asked() is not told", x.asked(), 90);
        due.is("it is aside", x.count(2), 40);
    }

    private static void roundNone(Due due) {
        due.refused("one inch goes and stays", Due.of("g01 b01"), Due.NONE, x -> x.round(1));
        due.refused("5 inches", Due.of(LAND), Due.NONE, x -> x.round(1));
        MovingHills heap = heap();
        due.is("90 inches", heap.round(1), Due.NONE);
        MovingHills played = Due.of("g030 b01");
        played.evening(1);
        due.is("back to what was ahead of now", played.round(2), Due.NONE);
    }

    private static void roundBad(Due due) {
        MovingHills x = Due.of(LAND);
        due.holds("round(8)", x.round(8) != Due.BAD);
        due.bad("round(9)", x, y -> y.round(9));
        due.bad("round(-1)", x, y -> y.round(-1));
        due.bad("round(max)", x, y -> y.round(Due.MAX));
        due.bad("round(min)", x, y -> y.round(Due.MIN));
        due.bad("round(1) without SPOTS", new MovingHills(), y -> y.round(1));
        due.bad("round(1) without BANDS", Due.of("g12"), y -> y.round(1));
    }

    private static void highest(Due due) {
        MovingHills x = Due.of(LAND);
        due.is("SPOT 0: by a MARCH of BAND 0", x.highest(0), 1);
        due.is("SPOT 1: by silence", x.highest(1), 0);
        due.is("SPOT 2: by a LULLABY of BAND 0", x.highest(2), 2);
        due.is("SPOT 3: by both, the last one of them", x.highest(3), 5);
        MovingHills alike = Due.of("g020 b01 b01 b01");
        due.is("of alike ones the first", alike.highest(1), 0);
        due.is("two of three are enough", alike.highest(0), 4);
        due.is("without BANDS", Due.of("g12").highest(1), 0);
        due.is("it is aside", x.count(2), 0);
    }

    private static void highestHow(Due due) {
        MovingHills x = Due.of(LAND);
        due.tells("SPOT 0", x, x.highest(0), 1, 1);
        due.tells("SPOT 1", x, x.highest(1), 0, 5);
        due.tells("SPOT 3", x, x.highest(3), 5, 1);
        MovingHills none = Due.of("g00 b01");
        none.band(0, 2);
        due.tells("0 high", none, none.highest(0), 0, 0);
        MovingHills heap = heap();
        due.tells("90 high", heap, heap.highest(0), 0, 90);
    }

    private static void lowest(Due due) {
        MovingHills x = Due.of(LAND);
        due.is("SPOT 0: by silence", x.lowest(0), 0);
        due.is("SPOT 1: by a MARCH of BAND 0", x.lowest(1), 1);
        MovingHills two = Due.of("g0900 d01 b01");
        due.is("by both, the first one of four", two.lowest(1), 4);
        MovingHills by = Due.of("g090 b01 d21");
        due.is("by a DRUM's MARCH behind a MARCH", by.lowest(1), 4);
        due.is("without BANDS", Due.of("g12").lowest(1), 0);
        due.is("it is aside", x.count(2), 0);
    }

    private static void lowestHow(Due due) {
        MovingHills x = Due.of(LAND);
        due.tells("SPOT 0", x, x.lowest(0), 0, 0);
        due.tells("SPOT 1", x, x.lowest(1), 1, 4);
        MovingHills two = Due.of("g0900 d01 b01");
        due.tells("by both", two, two.lowest(1), 4, 6);
        MovingHills none = Due.of("g10 b11");
        due.tells("down to 0", none, none.lowest(0), 1, 0);
        MovingHills heap = heap();
        due.tells("a heap", heap, heap.lowest(0), 1, 89);
    }

    private static void spotBad(Due due, boolean high) {
        MovingHills x = Due.of(LAND);
        due.holds("SPOT 3", (high ? x.highest(3) : x.lowest(3)) >= 0);
        for (int s : new int[] {4, -1, Due.MAX, Due.MIN}) {
            due.bad("SPOT " + s, x, y -> high ? y.highest(s) : y.lowest(s));
        }
        due.bad("without SPOTS", new MovingHills(), y -> high ? y.highest(0) : y.lowest(0));
    }
}
