import java.util.ArrayList;
import java.util.List;
import java.util.function.Consumer;

/** Promises 40 to 46, sentence by sentence: what is told. */
final class ToldSentences {
    private ToldSentences() {
    }

    static void run(Sentences s) {
        s.in("Promise 40");
        s.test("What the latest lay(), at(), mean(), spot(), band(), evening(), behind(), rest(), highest(), "
            + "lowest(), flat(), keeps(), rivals(), played(), twice(), valleys(), top(), border(), shifts()",
            ToldSentences::askedOf);
        s.test("that was not refused", ToldSentences::askedRefused);
        s.test("(nor NONE,", ToldSentences::askedNone);
        s.test("but as told) told;", ToldSentences::askedAsTold);
        s.test("0 before.", ToldSentences::askedBefore);
        s.in("Promise 41");
        s.test("Inches of the highest SPOT as a part of all, in lowest terms: its upper number", ToldSentences::upper);
        s.test("(0, if there are none).", ToldSentences::upperOfNone);
        s.in("Promise 42");
        s.test("Its lower number", ToldSentences::lower);
        s.test("(1, if there are none).", ToldSentences::lowerOfNone);
        s.in("Promise 43");
        s.test("0 SPOTS,", ToldSentences::countSpots);
        s.test("1 BANDS,", ToldSentences::countBands);
        s.test("2 EVENINGS,", ToldSentences::countEvenings);
        s.test("3 PROGRAMS that there are (0 without SPOTS),", ToldSentences::countPrograms);
        s.test("4 SPOTS with FROST,", ToldSentences::countFrost);
        s.test("5 DRUMS (BIG DRUMS, too),", ToldSentences::countDrums);
        s.test("6 ROWS,", ToldSentences::countRows);
        s.test("7 TEXTS that are there,", ToldSentences::countTexts);
        s.test("8 kept LANDS.", ToldSentences::countKept);
        s.test("BAD.", ToldSentences::countBad);
        s.in("Promise 44");
        s.test("The latest FINDING (0 before any).", ToldSentences::finding);
        s.in("Promise 45");
        s.test("How often a FINDING (1 .. 5) was answered.", ToldSentences::findings);
        s.test("BAD.", ToldSentences::findingsBad);
        s.in("Promise 46");
        s.test("h = 17; then h = 31 h + v for each v: count() 0 to 8;", ToldSentences::digestOfNone);
        s.test("of each SPOT its HEIGHT, whether there is FROST; of each BAND band() 0 to 4;", ToldSentences::digestOfLand);
        s.test("of each EVENING its PROGRAM;", ToldSentences::digestOfEvenings);
        s.test("of each kept LAND how many EVENINGS (-1: missing);", ToldSentences::digestOfKept);
        s.test("of each ROW its size (-1: missing) and places,", ToldSentences::digestOfRows);
        s.test("of each TEXT likewise.", ToldSentences::digestOfTexts);
    }

    private record Telling(String name, Consumer<MovingHills> call, int asked) {
    }

    /** On told(): each tells something else than 77. */
    private static List<Telling> tellings() {
        return List.of(
            new Telling("lay()", x -> x.lay(0, 1, 9), 3), new Telling("at()", x -> x.at(0, 2), 5),
            new Telling("mean()", x -> x.mean(0), 1), new Telling("spot()", x -> x.spot(1), 3),
            new Telling("band()", x -> x.band(1, 2), 4), new Telling("evening()", x -> x.evening(3), 4),
            new Telling("behind()", x -> x.behind(1, 2, 0), 2), new Telling("rest()", x -> x.rest(1), 5),
            new Telling("highest()", x -> x.highest(0), 3), new Telling("lowest()", x -> x.lowest(1), 0),
            new Telling("flat()", x -> x.flat(2, 5), 5), new Telling("keeps()", x -> x.keeps(2), 7),
            new Telling("rivals()", x -> x.rivals(0, 1, 0, 1), 1), new Telling("played()", x -> x.played(1), 1),
            new Telling("twice()", x -> x.twice(1), 1), new Telling("valleys()", x -> x.valleys(), 3),
            new Telling("top()", x -> x.top(), 5), new Telling("border()", x -> x.border(0, 1), 3),
            new Telling("shifts()", x -> x.shifts(1, 2), Due.NONE));
    }

    /** ROW 0 is as the HEIGHTS, ROW 1 as they are behind a MARCH of BAND 0; asked() is 77. */
    private static MovingHills told() {
        MovingHills x = Due.of("g035000 b01 d24");
        Due.fill(x, 0, 0, 3, 5, 0, 0, 0);
        Due.fill(x, 1, 1, 2, 5, 0, 0, 0);
        Due.fill(x, 2, 77);
        x.at(2, 0);
        return x;
    }

    private static void askedOf(Due due) {
        due.is("calls that tell", tellings().size(), 19);
        for (Telling one : tellings()) {
            MovingHills x = told();
            due.is("ahead of " + one.name, x.asked(), 77);
            one.call.accept(x);
            due.is(one.name, x.asked(), one.asked);
            due.is(one.name + ", asked() once more", x.asked(), one.asked);
        }
        MovingHills one = Due.of("g0310 b01");
        one.spot(1);
        due.is("spot(1)", one.asked(), 3);
        one.evening(1);
        due.is("evening(1), then", one.asked(), 1);
        one.top();
        due.is("top(), then", one.asked(), 2);
        one.valleys();
        due.is("valleys(), then", one.asked(), 1);
        one.highest(2);
        due.is("highest(2), then", one.asked(), 2);
        one.rest(1);
        due.is("rest(1), then", one.asked(), 3);
        silentCalls(due);
    }

    /** All other calls leave it alone. */
    private static void silentCalls(Due due) {
        MovingHills x = Due.of("g0390 b01 d33 t21");
        x.spot(2);
        x.row(0, 4);
        x.copy(0, 0, 0, 1, 2);
        x.text(1, 3);
        x.put(1, 0, 3);
        x.fault(1);
        x.fault(0);
        x.mark(1, 1);
        x.frost(1);
        x.move(0, 0);
        x.undo(0);
        x.heights(3);
        x.keep(0);
        x.on(0);
        x.round(0);
        x.raise(0, 0, 1, 2);
        x.could(0, 3);
        x.far(3);
        x.season(1, 1);
        x.upper();
        x.lower();
        x.count(0);
        x.finding();
        x.findings(1);
        x.digest();
        x.tear(0);
        x.land(0);
        due.is("spot(2) still", x.asked(), 9);
    }

    private static void askedRefused(Due due) {
        MovingHills x = told();
        List<Consumer<MovingHills>> calls = List.of(y -> y.lay(0, 9, 1), y -> y.at(5, 0), y -> y.mean(6),
            y -> y.spot(6), y -> y.band(2, 0), y -> y.evening(9), y -> y.behind(0, 61, 0), y -> y.rest(9),
            y -> y.highest(6), y -> y.lowest(6), y -> y.flat(64, 0), y -> y.keeps(6), y -> y.rivals(0, 0, 0, 0),
            y -> y.played(5), y -> y.twice(5), y -> y.border(1, 1), y -> y.shifts(1, 1));
        for (int i = 0; i < calls.size(); i++) {
            calls.get(i).accept(x);
            due.is("refused call " + i, x.asked(), 77);
        }
        MovingHills none = new MovingHills();
        Due.fill(none, 0, 7);
        none.at(0, 0);
        none.top();
        due.is("top() without SPOTS", none.asked(), 7);
        none.evening(0);
        due.is("evening() without SPOTS", none.asked(), 7);
    }

    private static void askedNone(Due due) {
        MovingHills x = Due.of("g90 b11");
        x.spot(0);
        due.is("flat(1, 0)", x.flat(1, 0), Due.NONE);
        due.is("asked()", x.asked(), 9);
    }

    private static void askedAsTold(Due due) {
        MovingHills x = Due.of("g020 b01");
        Due.fill(x, 0, 0, 0, 3);
        due.tells("played()", x, x.played(0), 0, Due.NONE);
        x.spot(1);
        due.tells("twice()", x, x.twice(0), 0, Due.NONE);
        x.spot(1);
        due.tells("shifts()", x, x.shifts(1, 2), 0, Due.NONE);
    }

    private static void askedBefore(Due due) {
        due.is("a new object", new MovingHills().asked(), 0);
        MovingHills x = Due.of("g99 b01");
        due.is("a LAND", x.asked(), 0);
        x.spot(2);
        x.flat(1, 9);
        x.mark(0, 0);
        due.is("refused calls alone", x.asked(), 0);
    }

    private static void part(Due due, String land, long upper, long lower) {
        MovingHills x = Due.of(land);
        due.is("upper() of " + land, x.upper(), upper);
        due.is("lower() of " + land, x.lower(), lower);
    }

    private static void upper(Due due) {
        part(due, "g10", 1, 1);
        part(due, "g90", 1, 1);
        part(due, "g11", 1, 2);
        part(due, "g69", 3, 5);
        part(due, "g643", 6, 13);
        part(due, "g9999999999", 1, 10);
        MovingHills heap = AsideSentences.heap();
        due.is("all in one", heap.upper(), 1);
        due.is("all in one", heap.lower(), 1);
    }

    private static void upperOfNone(Due due) {
        due.is("without SPOTS", new MovingHills().upper(), 0);
        due.is("without inches", Due.of("g0000000000").upper(), 0);
    }

    private static void lower(Due due) {
        part(due, "g4321", 2, 5);
        part(due, "g8888888882", 4, 37);
        part(due, "g9888888888", 1, 9);
        part(due, "g7531", 7, 16);
        MovingHills x = Due.of("g44 b01");
        x.evening(1);
        due.is("upper() of 5 3", x.upper(), 5);
        due.is("lower() of 5 3", x.lower(), 8);
    }

    private static void lowerOfNone(Due due) {
        due.is("without SPOTS", new MovingHills().lower(), 1);
        due.is("without inches", Due.of("g0000000000").lower(), 1);
    }

    private static void countSpots(Due due) {
        due.is("none", new MovingHills().count(0), 0);
        due.is("two", Due.of("g12").count(0), 2);
        due.is("ten", Due.of("g1234567890").count(0), 10);
    }

    private static void countBands(Due due) {
        due.is("without SPOTS", new MovingHills().count(1), 0);
        due.is("none", Due.of("g12").count(1), 0);
        due.is("three", Due.of("g12b01b01b01").count(1), 3);
    }

    private static void countEvenings(Due due) {
        due.is("without SPOTS", new MovingHills().count(2), 0);
        due.is("none", Due.of("g12").count(2), 0);
        MovingHills x = Due.evenings("g12", 60);
        due.is("sixty", x.count(2), 60);
        x.undo(7);
        due.is("undone", x.count(2), 7);
    }

    private static void countPrograms(Due due) {
        due.is("without SPOTS", new MovingHills().count(3), 0);
        due.is("without BANDS", Due.of("g12").count(3), 1);
        due.is("one BAND", Due.of("g12b01").count(3), 3);
        due.is("two", Due.of("g12b01d01").count(3), 9);
        due.is("three", Due.of("g12b01d01p01").count(3), 27);
    }

    private static void countFrost(Due due) {
        due.is("without SPOTS", new MovingHills().count(4), 0);
        MovingHills x = Due.of("g1234567890");
        due.is("none", x.count(4), 0);
        x.frost(1 + 2 + 512);
        due.is("three", x.count(4), 3);
        x.frost(1023);
        due.is("ten", x.count(4), 10);
    }

    private static void countDrums(Due due) {
        due.is("without SPOTS", new MovingHills().count(5), 0);
        due.is("none", Due.of("g12b01p01c01").count(5), 0);
        due.is("no ECHO", Due.of("g12e01").count(5), 0);
        due.is("one", Due.of("g12b01d01c01").count(5), 1);
        due.is("a BIG DRUM", Due.of("g12t01").count(5), 1);
        due.is("three", Due.of("g12d01t01d01").count(5), 3);
    }

    private static void countRows(Due due) {
        MovingHills x = new MovingHills();
        due.is("none", x.count(6), 0);
        for (int r = 0; r < 6; r++) {
            x.row(r, r);
            due.is("one more", x.count(6), r + 1);
        }
        x.row(0, 7);
        due.is("anew", x.count(6), 6);
        x.tear(3);
        due.is("torn", x.count(6), 5);
    }

    private static void countTexts(Due due) {
        MovingHills x = new MovingHills();
        due.is("none", x.count(7), 0);
        for (int t = 0; t < 4; t++) {
            x.text(t, t);
            due.is("one more", x.count(7), t + 1);
        }
        x.text(0, 7);
        due.is("anew", x.count(7), 4);
    }

    private static void countKept(Due due) {
        MovingHills x = Due.of("g12");
        due.is("none", x.count(8), 0);
        for (int k = 0; k < 3; k++) {
            x.keep(k);
            due.is("one more", x.count(8), k + 1);
        }
        x.keep(0);
        due.is("anew", x.count(8), 3);
        x.on(1);
        due.is("gone on from", x.count(8), 3);
        x.land(0);
        due.is("gone", x.count(8), 0);
    }

    private static void countBad(Due due) {
        MovingHills x = Due.of("g12");
        for (int what : new int[] {9, -1, Due.MAX, Due.MIN}) due.bad("count(" + what + ")", x, y -> y.count(what));
        due.bad("without SPOTS", new MovingHills(), y -> y.count(9));
    }

    private static void finding(Due due) {
        MovingHills x = Due.of("g03 b01");
        due.is("before any", x.finding(), 0);
        x.spot(2);
        due.is("BAD is none", x.finding(), 0);
        x.row(0, -1);
        due.is("SIZE", x.finding(), 5);
        x.mark(0, 1);
        due.is("UNLIKE", x.finding(), 3);
        x.on(0);
        due.is("NOTHING", x.finding(), 1);
        x.row(0, 0);
        due.is("it stays", x.finding(), 1);
        x.mean(0);
        due.is("NOUGHT", x.finding(), 4);
        x.at(0, 0);
        due.is("BEYOND", x.finding(), 2);
        x.land(0);
        due.is("behind land(), too", x.finding(), 2);
    }

    private static void findings(Due due) {
        MovingHills x = Due.of("g03 b01");
        x.row(0, 0);
        for (int f = 1; f <= 5; f++) due.is("none of " + f, x.findings(f), 0);
        for (int n = 1; n <= 3; n++) {
            x.tear(5);
            x.at(0, 0);
            x.mark(0, 1);
            x.mean(0);
            x.text(0, -1);
            for (int f = 1; f <= 5; f++) due.is(n + " of " + f, x.findings(f), n);
        }
        x.land(0);
        due.is("behind land(), too", x.findings(1), 3);
        x.at(0, -1);
        due.is("BEYOND", x.findings(2), 4);
        due.is("no other one", x.findings(1), 3);
        MovingHills often = new MovingHills();
        for (int call = 0; call < 511; call++) often.tear(5);
        due.is("the 512th call", often.findings(1), 511);
    }

    private static void findingsBad(Due due) {
        MovingHills x = new MovingHills();
        for (int f : new int[] {0, 6, -1, Due.MAX, Due.MIN}) due.bad("findings(" + f + ")", x, y -> y.findings(f));
    }

    private static void digest(Due due, String what, MovingHills x, int... values) {
        long h = 17;
        for (int v : values) h = 31 * h + v;
        due.is("digest() of " + what, x.digest(), h);
    }

    /** Some numbers, and as many more as are missing. */
    private static int[] then(int missing, int... values) {
        List<Integer> all = new ArrayList<>();
        for (int v : values) all.add(v);
        for (int i = 0; i < missing; i++) all.add(-1);
        return all.stream().mapToInt(v -> v).toArray();
    }

    private static void digestOfNone(Due due) {
        digest(due, "a new object", new MovingHills(), then(3 + 6 + 4, 0, 0, 0, 0, 0, 0, 0, 0, 0));
        MovingHills x = new MovingHills();
        x.at(0, 0);
        digest(due, "one that found NOTHING", x, then(3 + 6 + 4, 0, 0, 0, 0, 0, 0, 0, 0, 0));
    }

    private static MovingHills withoutText(String land) {
        MovingHills x = Due.of(land);
        x.text(0, 0);
        return x;
    }

    private static void digestOfLand(Due due) {
        digest(due, "g12", withoutText("g12"),
            then(3, 2, 0, 0, 1, 0, 0, 0, 1, 0, 1, 0, 2, 0, -1, -1, -1, -1, -1, -1, -1, -1, -1, 0));
        MovingHills x = withoutText("g030 b02 t22");
        x.frost(5);
        digest(due, "two BANDS, FROST", x, then(3, 3, 2, 0, 9, 2, 1, 0, 1, 0, 0, 1, 3, 0, 0, 1,
            0, 0, 2, 6, 0, 4, 2, 2, 3, 0, -1, -1, -1, -1, -1, -1, -1, -1, -1, 0));
    }

    private static void digestOfEvenings(Due due) {
        MovingHills x = withoutText("g030 b02");
        x.evening(1);
        x.evening(2);
        x.evening(0);
        digest(due, "three EVENINGS", x, then(3, 3, 1, 3, 3, 0, 0, 0, 1, 0, 1, 0, 1, 0, 1, 0,
            0, 0, 2, 6, 2, 1, 2, 0, -1, -1, -1, -1, -1, -1, -1, -1, -1, 0));
        x.undo(1);
        digest(due, "one of them", x, then(3, 3, 1, 1, 3, 0, 0, 0, 1, 0, 1, 0, 2, 0, 0, 0,
            0, 0, 2, 6, 1, 1, -1, -1, -1, -1, -1, -1, -1, -1, -1, 0));
    }

    private static void digestOfKept(Due due) {
        MovingHills x = withoutText("g12");
        x.keep(1);
        x.evening(0);
        x.evening(0);
        x.keep(2);
        x.undo(0);
        digest(due, "two kept LANDS", x,
            then(3, 2, 0, 0, 1, 0, 0, 0, 1, 2, 1, 0, 2, 0, -1, 0, 2, -1, -1, -1, -1, -1, -1, 0));
    }

    private static void digestOfRows(Due due) {
        MovingHills x = new MovingHills();
        Due.fill(x, 0, 7, -8);
        x.row(2, 0);
        Due.fill(x, 5, Due.MIN, Due.MAX);
        digest(due, "three ROWS", x, then(4, 0, 0, 0, 0, 0, 0, 3, 0, 0, -1, -1, -1,
            2, 7, -8, -1, 0, -1, -1, 2, Due.MIN, Due.MAX));
        x.tear(0);
        digest(due, "two of them", x, then(4, 0, 0, 0, 0, 0, 0, 2, 0, 0, -1, -1, -1,
            -1, -1, 0, -1, -1, 2, Due.MIN, Due.MAX));
    }

    private static void digestOfTexts(Due due) {
        MovingHills x = new MovingHills();
        x.text(0, 2);
        x.put(0, 1, 200);
        x.text(3, 0);
        digest(due, "two TEXTS", x, then(0, 0, 0, 0, 0, 0, 0, 0, 2, 0, -1, -1, -1,
            -1, -1, -1, -1, -1, -1, 2, 32, -56, -1, -1, 0));
    }
}
