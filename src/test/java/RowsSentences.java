/** Promises 1 to 9, sentence by sentence: a new object, ROWS, TEXTS. */
final class RowsSentences {
    private RowsSentences() {
    }

    static void run(Sentences s) {
        s.in("Promise 1");
        s.test("No ROWS, TEXTS, SPOTS, BANDS.", RowsSentences::newObject);
        s.in("Promise 2");
        s.test("A ROW is there with n ints 0: n.", RowsSentences::rowOfZeros);
        s.test("BAD: also n above 40;", RowsSentences::rowBad);
        s.test("SIZE: below 0.", RowsSentences::rowBelow0);
        s.in("Promise 3");
        s.test("Place i of a ROW is v: what it was, told by asked(): 1.", RowsSentences::lay);
        s.test("BAD; NOTHING; BEYOND.", RowsSentences::layRefused);
        s.in("Promise 4");
        s.test("Place i of a ROW, told by asked(): 1.", RowsSentences::at);
        s.test("BAD; NOTHING; BEYOND.", RowsSentences::atRefused);
        s.in("Promise 5");
        s.test("A ROW is missing: 1.", RowsSentences::tear);
        s.test("BAD; NOTHING.", RowsSentences::tearRefused);
        s.in("Promise 6");
        s.test("n places of a ROW, from one on, come to those of another one", RowsSentences::copy);
        s.test("(perhaps itself) from one on, as if taken ahead: 1.", RowsSentences::copyToItself);
        s.test("BAD;", RowsSentences::copyBad);
        s.test("SIZE: n below 0;", RowsSentences::copyBelow0);
        s.test("NOTHING: either;", RowsSentences::copyNothing);
        s.test("BEYOND: not so many there.", RowsSentences::copyBeyond);
        s.in("Promise 7");
        s.test("The mean of a ROW's ints, cut, told by asked(): 1.", RowsSentences::mean);
        s.test("BAD; NOTHING; NOUGHT.", RowsSentences::meanRefused);
        s.in("Promise 8");
        s.test("A TEXT is there with n blanks: n.", RowsSentences::textOfBlanks);
        s.test("BAD: also n above 80;", RowsSentences::textBad);
        s.test("SIZE: below 0.", RowsSentences::textBelow0);
        s.in("Promise 9");
        s.test("Byte i of a TEXT is v, cut to a byte: what it was, and 1000 more.", RowsSentences::put);
        s.test("BAD; NOTHING; BEYOND.", RowsSentences::putRefused);
    }

    private static void newObject(Due due) {
        MovingHills x = new MovingHills();
        for (int what : new int[] {0, 1, 6, 7}) due.is("count(" + what + ")", x.count(what), 0);
        due.bad("spot(0)", x, y -> y.spot(0));
        due.bad("band(0, 0)", x, y -> y.band(0, 0));
        for (int r = 0; r < 6; r++) due.finds("at(" + r + ", 0)", x, x.at(r, 0), Due.NOTHING);
        for (int t = 0; t < 4; t++) due.finds("land(" + t + ")", x, x.land(t), Due.NOTHING);
    }

    private static void rowOfZeros(Due due) {
        for (int n = 0; n <= 40; n++) {
            MovingHills x = new MovingHills();
            due.is("row(2, " + n + ")", x.row(2, n), n);
            due.row("row(2, " + n + ")", x, 2, new int[n]);
        }
        MovingHills again = new MovingHills();
        again.row(2, 40);
        for (int i = 0; i < 40; i++) again.lay(2, i, 7);
        again.row(2, 1);
        due.row("a smaller one", again, 2, 0);
        again.row(2, 40);
        due.row("a larger one again", again, 2, new int[40]);
    }

    private static void rowBad(Due due) {
        MovingHills x = new MovingHills();
        Due.fill(x, 0, 5);
        due.is("row(1, 40)", x.row(1, 40), 40);
        due.bad("row(0, 41)", x, y -> y.row(0, 41));
        due.bad("row(3, 41)", x, y -> y.row(3, 41));
        due.bad("row(0, max)", x, y -> y.row(0, Due.MAX));
        due.is("row(5, 0)", x.row(5, 0), 0);
        due.bad("row(6, 0)", x, y -> y.row(6, 0));
        due.bad("row(-1, 0)", x, y -> y.row(-1, 0));
        due.bad("row(max, 0)", x, y -> y.row(Due.MAX, 0));
        due.bad("row(min, 0)", x, y -> y.row(Due.MIN, 0));
        due.row("what it was", x, 0, 5);
    }

    private static void rowBelow0(Due due) {
        MovingHills x = new MovingHills();
        Due.fill(x, 0, 5);
        due.is("row(1, 0)", x.row(1, 0), 0);
        due.found("row(0, -1)", x, Due.SIZE, y -> y.row(0, -1));
        due.found("row(0, min)", x, Due.SIZE, y -> y.row(0, Due.MIN));
        due.found("row(4, -1)", x, Due.SIZE, y -> y.row(4, -1));
        due.bad("BAD ahead of SIZE", x, y -> y.row(6, -1));
        due.row("what it was", x, 0, 5);
        due.finds("not there", x, x.at(4, 0), Due.NOTHING);
    }

    private static void lay(Due due) {
        MovingHills x = new MovingHills();
        x.row(5, 40);
        due.tells("lay(5, 0, max)", x, x.lay(5, 0, Due.MAX), 1, 0);
        due.tells("lay(5, 39, min)", x, x.lay(5, 39, Due.MIN), 1, 0);
        due.tells("lay(5, 0, -9)", x, x.lay(5, 0, -9), 1, Due.MAX);
        due.tells("lay(5, 39, 1)", x, x.lay(5, 39, 1), 1, Due.MIN);
        due.tells("lay(5, 39, 1)", x, x.lay(5, 39, 1), 1, 1);
        due.tells("at(5, 0)", x, x.at(5, 0), 1, -9);
        due.tells("at(5, 1)", x, x.at(5, 1), 1, 0);
        due.tells("at(5, 39)", x, x.at(5, 39), 1, 1);
    }

    private static void layRefused(Due due) {
        MovingHills x = new MovingHills();
        Due.fill(x, 0, 4, 5);
        x.row(1, 0);
        due.bad("lay(6, 0, 1)", x, y -> y.lay(6, 0, 1));
        due.bad("lay(-1, 0, 1)", x, y -> y.lay(-1, 0, 1));
        due.bad("BAD ahead of BEYOND", x, y -> y.lay(6, -1, 1));
        due.found("lay(5, 0, 1)", x, Due.NOTHING, y -> y.lay(5, 0, 1));
        due.found("NOTHING ahead of BEYOND", x, Due.NOTHING, y -> y.lay(5, -1, 1));
        due.found("lay(0, 2, 1)", x, Due.BEYOND, y -> y.lay(0, 2, 1));
        due.found("lay(0, -1, 1)", x, Due.BEYOND, y -> y.lay(0, -1, 1));
        due.found("lay(0, max, 1)", x, Due.BEYOND, y -> y.lay(0, Due.MAX, 1));
        due.found("lay(0, min, 1)", x, Due.BEYOND, y -> y.lay(0, Due.MIN, 1));
        due.found("lay(1, 0, 1)", x, Due.BEYOND, y -> y.lay(1, 0, 1));
    }

    private static void at(Due due) {
        MovingHills x = new MovingHills();
        Due.fill(x, 0, 4, -5, Due.MAX);
        due.tells("at(0, 0)", x, x.at(0, 0), 1, 4);
        due.tells("at(0, 1)", x, x.at(0, 1), 1, -5);
        due.tells("at(0, 2)", x, x.at(0, 2), 1, Due.MAX);
    }

    private static void atRefused(Due due) {
        MovingHills x = new MovingHills();
        Due.fill(x, 0, 4, 5);
        x.row(1, 0);
        due.bad("at(6, 0)", x, y -> y.at(6, 0));
        due.bad("at(-1, 0)", x, y -> y.at(-1, 0));
        due.bad("BAD ahead of BEYOND", x, y -> y.at(-1, -1));
        due.found("at(5, 0)", x, Due.NOTHING, y -> y.at(5, 0));
        due.found("NOTHING ahead of BEYOND", x, Due.NOTHING, y -> y.at(5, -1));
        due.found("at(0, 2)", x, Due.BEYOND, y -> y.at(0, 2));
        due.found("at(0, -1)", x, Due.BEYOND, y -> y.at(0, -1));
        due.found("at(0, max)", x, Due.BEYOND, y -> y.at(0, Due.MAX));
        due.found("at(0, min)", x, Due.BEYOND, y -> y.at(0, Due.MIN));
        due.found("at(1, 0)", x, Due.BEYOND, y -> y.at(1, 0));
    }

    private static void tear(Due due) {
        for (int r = 0; r <= 5; r++) {
            MovingHills x = new MovingHills();
            for (int other = 0; other <= 5; other++) x.row(other, other);
            due.is("tear(" + r + ")", x.tear(r), 1);
            due.is("count(6)", x.count(6), 5);
            due.finds("missing", x, x.at(r, 0), Due.NOTHING);
            due.is("there again", x.row(r, 2), 2);
            due.row("there again", x, r, 0, 0);
        }
    }

    private static void tearRefused(Due due) {
        MovingHills x = new MovingHills();
        x.row(0, 3);
        due.bad("tear(6)", x, y -> y.tear(6));
        due.bad("tear(-1)", x, y -> y.tear(-1));
        due.found("tear(1)", x, Due.NOTHING, y -> y.tear(1));
        x.tear(0);
        due.found("tear(0) again", x, Due.NOTHING, y -> y.tear(0));
    }

    private static void copy(Due due) {
        MovingHills x = new MovingHills();
        Due.fill(x, 0, 1, 2, 3, 4, 5);
        Due.fill(x, 5, 7, 8, 9);
        due.is("one at the ends", x.copy(0, 4, 5, 2, 1), 1);
        due.row("one at the ends", x, 5, 7, 8, 5);
        due.is("as many as there are", x.copy(0, 2, 5, 0, 3), 1);
        due.row("as many as there are", x, 5, 3, 4, 5);
        due.is("none", x.copy(0, 0, 5, 0, 0), 1);
        due.is("none, behind the last ones", x.copy(0, 5, 5, 3, 0), 1);
        due.row("none", x, 5, 3, 4, 5);
        due.row("what is taken stays", x, 0, 1, 2, 3, 4, 5);
        x.row(1, 0);
        x.row(2, 0);
        due.is("none of an empty one", x.copy(1, 0, 2, 0, 0), 1);
        x.row(3, 40);
        x.row(4, 40);
        for (int i = 0; i < 40; i++) x.lay(3, i, i * i);
        due.is("all 40", x.copy(3, 0, 4, 0, 40), 1);
        for (int i = 0; i < 40; i++) due.tells("all 40", x, x.at(4, i), 1, i * i);
    }

    private static void copyToItself(Due due) {
        MovingHills x = new MovingHills();
        Due.fill(x, 0, 1, 2, 3, 4, 5);
        due.is("to the right", x.copy(0, 0, 0, 1, 4), 1);
        due.row("to the right", x, 0, 1, 1, 2, 3, 4);
        Due.fill(x, 0, 1, 2, 3, 4, 5);
        due.is("to the left", x.copy(0, 1, 0, 0, 4), 1);
        due.row("to the left", x, 0, 2, 3, 4, 5, 5);
        due.is("all to where they are", x.copy(0, 0, 0, 0, 5), 1);
        due.row("all to where they are", x, 0, 2, 3, 4, 5, 5);
    }

    private static void copyBad(Due due) {
        MovingHills x = new MovingHills();
        Due.fill(x, 0, 4, 5);
        Due.fill(x, 5, 6, 7);
        due.is("ROWS 5 and 0", x.copy(5, 0, 0, 0, 0), 1);
        due.bad("from ROW 6", x, y -> y.copy(6, 0, 0, 0, 1));
        due.bad("from ROW -1", x, y -> y.copy(-1, 0, 0, 0, 1));
        due.bad("to ROW 6", x, y -> y.copy(0, 0, 6, 0, 1));
        due.bad("to ROW -1", x, y -> y.copy(0, 0, -1, 0, 1));
        due.bad("BAD ahead of SIZE", x, y -> y.copy(6, 0, 0, 0, -1));
        due.bad("BAD ahead of NOTHING", x, y -> y.copy(1, 0, 6, 0, 1));
        due.bad("BAD ahead of BEYOND", x, y -> y.copy(0, 9, -1, 9, 9));
    }

    private static void copyBelow0(Due due) {
        MovingHills x = new MovingHills();
        Due.fill(x, 0, 4, 5);
        due.found("n is -1", x, Due.SIZE, y -> y.copy(0, 1, 0, 0, -1));
        due.found("n is the least", x, Due.SIZE, y -> y.copy(0, 1, 0, 0, Due.MIN));
        due.found("SIZE ahead of NOTHING", x, Due.SIZE, y -> y.copy(1, 0, 2, 0, -1));
        due.found("SIZE ahead of BEYOND", x, Due.SIZE, y -> y.copy(0, -1, 0, 9, -1));
    }

    private static void copyNothing(Due due) {
        MovingHills x = new MovingHills();
        Due.fill(x, 0, 4, 5);
        due.found("from a missing one", x, Due.NOTHING, y -> y.copy(1, 0, 0, 0, 1));
        due.found("to a missing one", x, Due.NOTHING, y -> y.copy(0, 0, 1, 0, 1));
        due.found("both", x, Due.NOTHING, y -> y.copy(1, 0, 1, 0, 0));
        due.found("NOTHING ahead of BEYOND", x, Due.NOTHING, y -> y.copy(0, -1, 1, 0, 9));
    }

    private static void copyBeyond(Due due) {
        MovingHills x = new MovingHills();
        Due.fill(x, 0, 1, 2, 3, 4, 5);
        Due.fill(x, 1, 6, 7, 8);
        x.row(2, 0);
        due.found("one too many from", x, Due.BEYOND, y -> y.copy(0, 3, 1, 0, 3));
        due.found("one too many to", x, Due.BEYOND, y -> y.copy(0, 0, 1, 1, 3));
        due.found("more than there are", x, Due.BEYOND, y -> y.copy(0, 0, 0, 0, 6));
        due.found("from -1", x, Due.BEYOND, y -> y.copy(0, -1, 1, 0, 1));
        due.found("to -1", x, Due.BEYOND, y -> y.copy(0, 0, 1, -1, 1));
        due.found("none from -1", x, Due.BEYOND, y -> y.copy(0, -1, 1, 0, 0));
        due.found("none from behind the end", x, Due.BEYOND, y -> y.copy(0, 6, 1, 0, 0));
        due.found("none to behind the end", x, Due.BEYOND, y -> y.copy(0, 0, 1, 4, 0));
        due.found("one from an empty one", x, Due.BEYOND, y -> y.copy(2, 0, 1, 0, 1));
        due.found("one to an empty one", x, Due.BEYOND, y -> y.copy(1, 0, 2, 0, 1));
        due.found("n is the most", x, Due.BEYOND, y -> y.copy(0, 1, 1, 0, Due.MAX));
        due.found("both are the most", x, Due.BEYOND, y -> y.copy(0, Due.MAX, 1, Due.MAX, Due.MAX));
        due.found("from the least", x, Due.BEYOND, y -> y.copy(0, Due.MIN, 1, 0, 1));
    }

    private static void mean(Due due, int want, int... ints) {
        MovingHills x = new MovingHills();
        Due.fill(x, 3, ints);
        due.tells("mean of " + java.util.Arrays.toString(ints), x, x.mean(3), 1, want);
    }

    private static void mean(Due due) {
        mean(due, 5, 5);
        mean(due, 0, 0, 1);
        mean(due, 1, 1, 2);
        mean(due, 2, 2, 3, 3);
        mean(due, 0, 0, -1);
        mean(due, -1, -1, -2);
        mean(due, -2, -2, -3, -3);
        mean(due, Due.MAX, Due.MAX, Due.MAX, Due.MAX);
        mean(due, Due.MIN, Due.MIN, Due.MIN);
        mean(due, 0, Due.MIN, Due.MAX);
        int[] most = new int[40];
        java.util.Arrays.fill(most, Due.MAX);
        mean(due, Due.MAX, most);
    }

    private static void meanRefused(Due due) {
        MovingHills x = new MovingHills();
        Due.fill(x, 0, 4, 6);
        x.mean(0);
        x.row(1, 0);
        due.bad("mean(6)", x, y -> y.mean(6));
        due.bad("mean(-1)", x, y -> y.mean(-1));
        due.found("mean(2)", x, Due.NOTHING, y -> y.mean(2));
        due.found("mean(1)", x, Due.NOUGHT, y -> y.mean(1));
        due.is("asked() still", x.asked(), 5);
    }

    private static void textOfBlanks(Due due) {
        for (int n = 0; n <= 80; n++) {
            MovingHills x = new MovingHills();
            due.is("text(1, " + n + ")", x.text(1, n), n);
            for (int i = 0; i < n; i++) due.is("byte " + i + " of " + n, x.put(1, i, 65), 1032);
            due.finds("the end of " + n, x, x.put(1, n, 65), Due.BEYOND);
            due.is("anew", x.text(1, n), n);
            for (int i = 0; i < n; i++) due.is("byte " + i + " of " + n + " anew", x.put(1, i, 65), 1032);
        }
    }

    private static void textBad(Due due) {
        MovingHills x = new MovingHills();
        Due.write(x, 0, "g12");
        due.is("text(3, 80)", x.text(3, 80), 80);
        due.bad("text(0, 81)", x, y -> y.text(0, 81));
        due.bad("text(1, 81)", x, y -> y.text(1, 81));
        due.bad("text(0, max)", x, y -> y.text(0, Due.MAX));
        due.bad("text(4, 0)", x, y -> y.text(4, 0));
        due.bad("text(-1, 0)", x, y -> y.text(-1, 0));
    }

    private static void textBelow0(Due due) {
        MovingHills x = new MovingHills();
        Due.write(x, 0, "g12");
        due.found("text(0, -1)", x, Due.SIZE, y -> y.text(0, -1));
        due.found("text(0, min)", x, Due.SIZE, y -> y.text(0, Due.MIN));
        due.found("text(1, -1)", x, Due.SIZE, y -> y.text(1, -1));
        due.bad("BAD ahead of SIZE", x, y -> y.text(4, -1));
        due.finds("not there", x, x.fault(1), Due.NOTHING);
    }

    private static void put(Due due) {
        MovingHills x = new MovingHills();
        x.text(0, 80);
        int[] put = {0, 127, 128, 255, 256, -1, -128, -129, 1000, Due.MAX, Due.MIN, 32};
        int[] was = {32, 0, 127, -128, -1, 0, -1, -128, 127, -24, -1, 0};
        for (int place : new int[] {0, 79}) {
            for (int i = 0; i < put.length; i++) {
                due.is("put(0, " + place + ", " + put[i] + ")", x.put(0, place, put[i]), was[i] + 1000);
            }
        }
        due.is("another byte", x.put(0, 1, 0), 1032);
    }

    private static void putRefused(Due due) {
        MovingHills x = new MovingHills();
        Due.write(x, 0, "g12");
        x.text(1, 0);
        due.bad("put(4, 0, 1)", x, y -> y.put(4, 0, 1));
        due.bad("put(-1, 0, 1)", x, y -> y.put(-1, 0, 1));
        due.bad("BAD ahead of BEYOND", x, y -> y.put(4, -1, 1));
        due.found("put(3, 0, 1)", x, Due.NOTHING, y -> y.put(3, 0, 1));
        due.found("NOTHING ahead of BEYOND", x, Due.NOTHING, y -> y.put(3, -1, 1));
        due.found("put(0, 3, 1)", x, Due.BEYOND, y -> y.put(0, 3, 1));
        due.found("put(0, -1, 1)", x, Due.BEYOND, y -> y.put(0, -1, 1));
        due.found("put(0, max, 1)", x, Due.BEYOND, y -> y.put(0, Due.MAX, 1));
        due.found("put(0, min, 1)", x, Due.BEYOND, y -> y.put(0, Due.MIN, 1));
        due.found("put(1, 0, 1)", x, Due.BEYOND, y -> y.put(1, 0, 1));
    }
}
