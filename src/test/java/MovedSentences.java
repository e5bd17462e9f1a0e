/** Promises 31 to 33, sentence by sentence: by what has moved. */
final class MovedSentences {
    private MovedSentences() {
    }

    static void run(Sentences s) {
        s.in("Promise 31");
        s.test("By how many PROGRAMS one EVENING leads from the HEIGHTS now to those of a ROW;", MovedSentences::played);
        s.test("the first by asked() (NONE: none).", MovedSentences::playedFirst);
        s.test("BAD; STATE: no SPOTS; NOTHING; SIZE: not as many as SPOTS.", due -> refused(due, 0));
        s.test("(In this order.)", due -> order(due, 0));
        s.in("Promise 32");
        s.test("TUNES (bits 0 .. 2) that a BAND can have played then.", MovedSentences::could);
        s.test("BAD; NOTHING; SIZE.", MovedSentences::couldRefused);
        s.in("Promise 33");
        s.test("By how many pairs of PROGRAMS two EVENINGS lead there;", MovedSentences::twice);
        s.test("the first (1000 times the first one, and the second one) by asked() (NONE).", MovedSentences::twiceFirst);
        s.test("BAD; STATE; NOTHING; SIZE.", due -> refused(due, 1));
        s.test("(In this order.)", due -> order(due, 1));
    }

    private static int ask(MovingHills x, int which, int r) {
        return which == 0 ? x.played(r) : x.twice(r);
    }

    private static void asks(Due due, String land, int which, int many, int first, int... heights) {
        MovingHills x = Due.of(land);
        Due.fill(x, 5, heights);
        String what = (which == 0 ? "played" : "twice") + " of " + land + " to " + java.util.Arrays.toString(heights);
        due.tells(what, x, ask(x, which, 5), many, first);
        due.is("it is aside", x.count(2), 0);
        due.row("the ROW stays", x, 5, heights);
    }

    private static void played(Due due) {
        asks(due, "g12", 0, 1, 0, 1, 2);
        asks(due, "g00 b01", 0, 3, 0, 0, 0);
        asks(due, "g00 b01 b01 b01", 0, 27, 0, 0, 0);
        asks(due, "g020 b01", 0, 1, 0, 0, 2, 0);
        asks(due, "g020 b01", 0, 1, 1, 1, 1, 0);
        asks(due, "g020 b01", 0, 1, 2, 0, 1, 1);
        asks(due, "g030 b01 b01", 0, 2, 1, 1, 2, 0);
        asks(due, "g030 b01 b01", 0, 2, 5, 1, 1, 1);
        asks(due, "g030 b01 b01", 0, 1, 4, 2, 1, 0);
        asks(due, "g1234567890 b91", 0, 1, 1, 1, 2, 3, 4, 5, 6, 7, 8, 8, 1);
        asks(due, "g1234567890 b91", 0, 0, Due.NONE, 1, 2, 3, 4, 5, 6, 7, 8, 8, 2);
    }

    private static void playedFirst(Due due) {
        asks(due, "g020 b01", 0, 0, Due.NONE, 2, 0, 0);
        asks(due, "g020 b01", 0, 0, Due.NONE, 0, 2, 1);
        asks(due, "g020 b01", 0, 0, Due.NONE, Due.MIN, Due.MAX, -1);
        asks(due, "g09 b01 b01 b01", 0, 8, 0, 0, 9);
        asks(due, "g030 b01 b01 b01", 0, 1, 13, 3, 0, 0);
        asks(due, "g030 b01 b01 b01", 0, 1, 26, 0, 0, 3);
        MovingHills full = Due.evenings("g020 b01", 60);
        Due.fill(full, 0, 1, 1, 0);
        due.tells("behind 60 EVENINGS", full, full.played(0), 1, 1);
    }

    private static void refused(Due due, int which) {
        MovingHills x = Due.of("g123 b01");
        due.bad("ROW 6", x, y -> ask(y, which, 6));
        due.bad("ROW -1", x, y -> ask(y, which, -1));
        due.bad("the most", x, y -> ask(y, which, Due.MAX));
        due.bad("the least", x, y -> ask(y, which, Due.MIN));
        due.found("a ROW that is missing", x, Due.NOTHING, y -> ask(y, which, 5));
        x.row(5, 2);
        due.found("one too few", x, Due.SIZE, y -> ask(y, which, 5));
        x.row(5, 4);
        due.found("one too many", x, Due.SIZE, y -> ask(y, which, 5));
        x.row(5, 0);
        due.found("none", x, Due.SIZE, y -> ask(y, which, 5));
        x.row(5, 40);
        due.found("40", x, Due.SIZE, y -> ask(y, which, 5));
        x.row(5, 3);
        due.is("just as many", ask(x, which, 5), 0);
        MovingHills none = new MovingHills();
        none.row(0, 0);
        due.refused("without SPOTS", none, Due.STATE, y -> ask(y, which, 0));
    }

    private static void order(Due due, int which) {
        MovingHills none = new MovingHills();
        due.bad("BAD ahead of STATE", none, y -> ask(y, which, 6));
        due.bad("BAD ahead of STATE", none, y -> ask(y, which, -1));
        due.refused("STATE ahead of NOTHING", none, Due.STATE, y -> ask(y, which, 5));
        none.row(5, 3);
        due.refused("STATE ahead of SIZE", none, Due.STATE, y -> ask(y, which, 5));
    }

    private static void could(Due due, String land, int i, int want, int... heights) {
        MovingHills x = Due.of(land);
        x.spot(0);
        int asked = x.asked();
        x.heights(0);
        Due.fill(x, 5, heights);
        x.spot(0);
        String what = "could(" + i + ") of " + land + " to " + java.util.Arrays.toString(heights);
        due.tells(what, x, x.could(i, 5), want, asked);
        due.is("it is aside", x.count(2), 0);
    }

    private static void could(Due due) {
        could(due, "g00 b01", 0, 7, 0, 0);
        could(due, "g020 b01", 0, 1, 0, 2, 0);
        could(due, "g020 b01", 0, 2, 1, 1, 0);
        could(due, "g020 b01", 0, 4, 0, 1, 1);
        could(due, "g020 b01", 0, 0, 2, 0, 0);
        could(due, "g030 b01 b01", 0, 1 + 2, 1, 2, 0);
        could(due, "g030 b01 b01", 1, 1 + 2, 1, 2, 0);
        could(due, "g030 b01 b01", 0, 2 + 4, 1, 1, 1);
        could(due, "g030 b01 b01", 1, 2, 2, 1, 0);
        could(due, "g030 b01 b01 p21", 2, 7, 2, 1, 0);
        could(due, "g03 b01 b01 b01", 2, 7, 1, 2);
    }

    private static void couldRefused(Due due) {
        MovingHills x = Due.of("g123 b01 d11");
        x.row(0, 3);
        due.is("BAND 1", x.could(1, 0), 0);
        due.bad("BAND 2", x, y -> y.could(2, 0));
        due.bad("BAND -1", x, y -> y.could(-1, 0));
        due.bad("ROW 6", x, y -> y.could(0, 6));
        due.bad("ROW -1", x, y -> y.could(0, -1));
        due.bad("BAD ahead of NOTHING", x, y -> y.could(2, 5));
        due.found("a ROW that is missing", x, Due.NOTHING, y -> y.could(0, 5));
        x.row(5, 2);
        due.found("one too few", x, Due.SIZE, y -> y.could(0, 5));
        due.bad("BAD ahead of SIZE", x, y -> y.could(2, 5));
        x.row(5, 4);
        due.found("one too many", x, Due.SIZE, y -> y.could(0, 5));
        x.row(5, 0);
        due.found("none", x, Due.SIZE, y -> y.could(0, 5));
        due.bad("without SPOTS", new MovingHills(), y -> y.could(0, 0));
        MovingHills quiet = Due.of("g12");
        quiet.heights(0);
        due.bad("without BANDS", quiet, y -> y.could(0, 0));
    }

    private static void twice(Due due) {
        asks(due, "g12", 1, 1, 0, 1, 2);
        asks(due, "g00 b01", 1, 9, 0, 0, 0);
        asks(due, "g00 b01 b01 b01", 1, 729, 0, 0, 0);
        asks(due, "g020 b01", 1, 1, 0, 0, 2, 0);
        asks(due, "g020 b01", 1, 2, 1, 1, 1, 0);
        asks(due, "g020 b01", 1, 2, 2, 0, 1, 1);
        asks(due, "g020 b01", 1, 1, 1001, 2, 0, 0);
        asks(due, "g020 b01", 1, 2, 1002, 1, 0, 1);
        asks(due, "g020 b01", 1, 1, 2002, 0, 0, 2);
        asks(due, "g1234567890 b91", 1, 1, 1001, 1, 2, 3, 4, 5, 6, 7, 8, 7, 2);
    }

    private static void twiceFirst(Due due) {
        asks(due, "g020 b01", 1, 0, Due.NONE, 2, 0, 1);
        asks(due, "g030 b01", 1, 0, Due.NONE, 3, 0, 0);
        asks(due, "g060 b01 b01 b01", 1, 1, 13013, 6, 0, 0);
        asks(due, "g060 b01 b01 b01", 1, 1, 26026, 0, 0, 6);
        MovingHills full = Due.evenings("g020 b01", 60);
        Due.fill(full, 0, 2, 0, 0);
        due.tells("behind 60 EVENINGS", full, full.twice(0), 1, 1001);
    }
}
