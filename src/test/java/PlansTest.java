/** Promises 27 to 30: what to play. */
public final class PlansTest {
    private static final Due due = new Due();

    public static void main(String[] args) {
        promise27();
        promise28();
        promise29();
        promise30();
        due.end("PlansTest");
    }

    private static void promise27() {
        MovingHills x = Due.of("g0210 b01 d33");
        due.tells("flat(1, 2)", x, x.flat(1, 2), 0, 0);
        due.row("flat(1, 2)", x, 2);
        due.tells("flat(4, 2)", x, x.flat(4, 2), 1, 3);
        due.row("flat(4, 2): by a MARCH 2 inches would come there", x, 2, 6);
        due.tells("flat(2, 0)", x, x.flat(2, 0), 1, 3);
        due.row("flat(2, 0): 2 inches of SPOT 1 at once", x, 0, 3);
        due.tells("flat(0, 1)", x, x.flat(0, 1), 0, 0);
        due.row("flat(0, 1)", x, 1);
        due.is("flat() is aside", x.count(2), 0);
        due.is("flat(16, 0)", x.flat(16, 0), Due.BAD);
        due.is("flat(-1, 0)", x.flat(-1, 0), Due.BAD);
        due.is("flat(1, 6)", x.flat(1, 6), Due.BAD);
        due.is("flat(1, -1)", x.flat(1, -1), Due.BAD);
        due.row("refused", x, 0, 3);
        due.tells("flat(15, 0)", x, x.flat(15, 0), Due.NONE, 3);
        due.row("NONE", x, 0, 3);
        MovingHills none = new MovingHills();
        due.is("flat(0, 0) without SPOTS", none.flat(0, 0), Due.STATE);
        due.is("flat(1, 0) without SPOTS", none.flat(1, 0), Due.BAD);
        due.is("flat(0, 6) without SPOTS", none.flat(0, 6), Due.BAD);
        MovingHills three = Due.of("g030 b01 b29");
        due.tells("flat of 3 inches by two BANDS: 2 EVENINGS", three, three.flat(2, 0), 2, 11);
        due.row("by 4 an inch would come back", three, 0, 1, 7);
        MovingHills four = Due.of("g40 b11");
        due.tells("4 inches", four, four.flat(1, 0), Due.NONE, 0);
        MovingHills just = Due.of("g30 b11");
        due.tells("3 inches", just, just.flat(1, 0), 3, 3);
        due.row("3 inches", just, 0, 1, 1, 1);
        just.frost(1);
        due.is("FROST", just.flat(1, 0), Due.NONE);
    }

    private static void promise28() {
        MovingHills x = Due.of("g0210 b01 d33");
        due.is("raise(0, 0, 0, 3)", x.raise(0, 0, 0, 3), 0);
        due.row("raise(0, 0, 0, 3)", x, 3);
        due.is("raise(0, 1, 0, 3)", x.raise(0, 1, 0, 3), Due.NONE);
        due.row("NONE", x, 3);
        due.is("raise(0, 1, 1, 3)", x.raise(0, 1, 1, 3), 1);
        due.row("raise(0, 1, 1, 3)", x, 3, 1);
        due.is("raise(0, 1, 3, 3)", x.raise(0, 1, 3, 3), 1);
        due.row("the first of alike ones", x, 3, 0, 0, 1);
        due.is("raise(0, 2, 1, 3)", x.raise(0, 2, 1, 3), 3);
        due.row("raise(0, 2, 1, 3)", x, 3, 6);
        due.is("raise(0, 99, 3, 3)", x.raise(0, 99, 3, 3), Due.NONE);
        due.is("raise(1, 2, 2, 3)", x.raise(1, 2, 2, 3), 0);
        due.row("raise(1, 2, 2, 3)", x, 3, 0, 0);
        due.is("raise(0, 0, 4, 3)", x.raise(0, 0, 4, 3), Due.BAD);
        due.is("raise(0, 0, -1, 3)", x.raise(0, 0, -1, 3), Due.BAD);
        due.is("raise(0, 100, 1, 3)", x.raise(0, 100, 1, 3), Due.BAD);
        due.is("raise(0, -1, 1, 3)", x.raise(0, -1, 1, 3), Due.BAD);
        due.is("raise(4, 0, 1, 3)", x.raise(4, 0, 1, 3), Due.BAD);
        due.is("raise(-1, 0, 1, 3)", x.raise(-1, 0, 1, 3), Due.BAD);
        due.is("raise(0, 0, 1, 6)", x.raise(0, 0, 1, 6), Due.BAD);
        due.is("raise(0, 0, 1, -1)", x.raise(0, 0, 1, -1), Due.BAD);
        due.row("refused", x, 3, 0, 0);
        due.is("raise() is aside", x.count(2), 0);
        MovingHills own = Due.of("g303 b11");
        due.is("from both sides at once", own.raise(1, 2, 1, 0), 1);
        due.is("from both sides, twice", own.raise(1, 4, 2, 0), 2);
        due.is("one more than can come", own.raise(1, 5, 2, 0), Due.NONE);
        due.is("all that there is", own.raise(1, 6, 3, 0), 3);
        MovingHills right = Due.of("g40 t11");
        due.is("2 inches from the left", right.raise(1, 2, 1, 0), 1);
        MovingHills left = Due.of("g04 t01");
        due.is("2 inches from the right", left.raise(0, 2, 1, 0), 1);
        MovingHills many = Due.of("g0902 b01 d02 t01");
        due.is("5 inches by three BANDS", many.raise(0, 5, 1, 0), 4);
        due.row("5 inches by three BANDS", many, 0, 1 + 3 + 9);
        due.is("raise() without SPOTS", new MovingHills().raise(0, 0, 0, 0), Due.BAD);
    }

    private static void promise29() {
        MovingHills x = Due.of("g0210 b01 d33");
        due.tells("keeps(0): the inch that comes goes again", x, x.keeps(0), 4, 4);
        due.tells("keeps(3)", x, x.keeps(3), 4, 7);
        due.tells("keeps(4)", x, x.keeps(4), Due.BAD, 7);
        due.is("keeps(-1)", x.keeps(-1), Due.BAD);
        due.is("keeps() is aside", x.count(2), 0);
        MovingHills alone = Due.of("g20 b11");
        due.tells("a LULLABY keeps SPOT 0", alone, alone.keeps(0), 1, 2);
        MovingHills quiet = Due.of("g20");
        due.tells("silence alone", quiet, quiet.keeps(0), 0, 0);
        MovingHills never = Due.of("g020 b01");
        due.tells("nothing but silence", never, never.keeps(1), 0, 0);
    }

    private static void promise30() {
        MovingHills x = Due.of("g0510 b02 d31 p22");
        due.tells("n is 0", x, x.rivals(0, 1, 0, 0), 0, 0);
        due.tells("one turn", x, x.rivals(0, 1, 0, 1), 1, 1);
        due.tells("the second one can't reach SPOT 0", x, x.rivals(0, 1, 0, 2), 1, 1);
        due.tells("three turns", x, x.rivals(0, 1, 0, 3), 2, 1);
        due.tells("one that can't help it", x, x.rivals(1, 0, 0, 1), 0, 0);
        due.is("rivals() is aside", x.count(2), 0);
        due.is("the same BAND", x.rivals(1, 1, 0, 1), Due.BAD);
        due.is("rivals(3, 0, 0, 1)", x.rivals(3, 0, 0, 1), Due.BAD);
        due.is("rivals(0, 3, 0, 1)", x.rivals(0, 3, 0, 1), Due.BAD);
        due.is("rivals(-1, 0, 0, 1)", x.rivals(-1, 0, 0, 1), Due.BAD);
        due.is("rivals(0, -1, 0, 1)", x.rivals(0, -1, 0, 1), Due.BAD);
        due.is("rivals(0, 1, 4, 1)", x.rivals(0, 1, 4, 1), Due.BAD);
        due.is("rivals(0, 1, -1, 1)", x.rivals(0, 1, -1, 1), Due.BAD);
        due.is("rivals(0, 1, 0, 7)", x.rivals(0, 1, 0, 7), Due.BAD);
        due.is("rivals(0, 1, 0, -1)", x.rivals(0, 1, 0, -1), Due.BAD);
        due.is("asked()", x.asked(), 0);
        due.holds("six turns", x.rivals(0, 1, 0, 6) >= 0);
    }
}
