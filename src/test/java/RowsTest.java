/** Promises 1 to 9: a new object, rows, texts. */
public final class RowsTest {
    private static final Due due = new Due();

    public static void main(String[] args) {
        promise1();
        promise2();
        promise3and4();
        promise5();
        promise6();
        promise7();
        promise8and9();
        due.end("RowsTest");
    }

    private static void promise1() {
        MovingHills x = new MovingHills();
        for (int what = 0; what <= 8; what++) due.is("new count(" + what + ")", x.count(what), 0);
        for (int r = 0; r < 6; r++) due.finds("new at(" + r + ", 0)", x, x.at(r, 0), Due.NOTHING);
        for (int t = 0; t < 4; t++) due.finds("new fault(" + t + ")", x, x.fault(t), Due.NOTHING);
        due.is("new spot(0)", x.spot(0), Due.BAD);
        due.is("new band(0, 0)", x.band(0, 0), Due.BAD);
        due.is("new frost(0)", x.frost(0), 0);
        due.is("new frost(1)", x.frost(1), Due.BAD);
        for (int k = 0; k < 3; k++) due.finds("new on(" + k + ")", x, x.on(k), Due.NOTHING);
        due.is("new asked()", x.asked(), 0);
    }

    private static void promise2() {
        MovingHills x = new MovingHills();
        due.is("row(0, 0)", x.row(0, 0), 0);
        due.is("row(5, 40)", x.row(5, 40), 40);
        due.is("count(6)", x.count(6), 2);
        due.is("row(6, 1)", x.row(6, 1), Due.BAD);
        due.is("row(-1, 1)", x.row(-1, 1), Due.BAD);
        due.is("row(-1, -1)", x.row(-1, -1), Due.BAD);
        due.is("row(1, 41)", x.row(1, 41), Due.BAD);
        due.is("row(1, max)", x.row(1, Integer.MAX_VALUE), Due.BAD);
        due.is("finding()", x.finding(), 0);
        due.finds("row(1, -1)", x, x.row(1, -1), Due.SIZE);
        due.finds("row(1, min)", x, x.row(1, Integer.MIN_VALUE), Due.SIZE);
        due.is("findings(5)", x.findings(5), 2);
        due.finds("a refused row is not there", x, x.at(1, 0), Due.NOTHING);
        Due.fill(x, 2, 7, 8, 9);
        x.row(2, -5);
        due.row("a refused row stays", x, 2, 7, 8, 9);
        due.is("row(2, 4)", x.row(2, 4), 4);
        due.row("a row anew", x, 2, 0, 0, 0, 0);
    }

    private static void promise3and4() {
        MovingHills x = new MovingHills();
        x.row(3, 2);
        due.tells("lay(3, 0, 11)", x, x.lay(3, 0, 11), 1, 0);
        due.tells("lay(3, 0, min)", x, x.lay(3, 0, Integer.MIN_VALUE), 1, 11);
        due.tells("at(3, 1)", x, x.at(3, 1), 1, 0);
        due.tells("at(3, 0)", x, x.at(3, 0), 1, Integer.MIN_VALUE);
        due.tells("at(6, 0)", x, x.at(6, 0), Due.BAD, Integer.MIN_VALUE);
        due.is("at(-1, -1)", x.at(-1, -1), Due.BAD);
        due.is("lay(6, 0, 0)", x.lay(6, 0, 0), Due.BAD);
        due.is("lay(-1, 0, 0)", x.lay(-1, 0, 0), Due.BAD);
        due.is("finding()", x.finding(), 0);
        due.finds("at(3, 2)", x, x.at(3, 2), Due.BEYOND);
        due.finds("at(3, -1)", x, x.at(3, -1), Due.BEYOND);
        due.finds("lay(3, 2, 5)", x, x.lay(3, 2, 5), Due.BEYOND);
        due.finds("lay(3, -1, 5)", x, x.lay(3, -1, 5), Due.BEYOND);
        due.is("findings(2)", x.findings(2), 4);
        due.finds("at(2, 0)", x, x.at(2, 0), Due.NOTHING);
        due.finds("at(2, -1)", x, x.at(2, -1), Due.NOTHING);
        due.finds("lay(2, 0, 5)", x, x.lay(2, 0, 5), Due.NOTHING);
        due.is("asked() behind refusals", x.asked(), Integer.MIN_VALUE);
        due.row("refused lays change nothing", x, 3, Integer.MIN_VALUE, 0);
    }

    private static void promise5() {
        MovingHills x = new MovingHills();
        x.row(4, 3);
        due.is("tear(4)", x.tear(4), 1);
        due.is("count(6)", x.count(6), 0);
        due.finds("tear(4) again", x, x.tear(4), Due.NOTHING);
        due.is("tear(6)", x.tear(6), Due.BAD);
        due.is("tear(-1)", x.tear(-1), Due.BAD);
        x.row(0, 0);
        due.is("tear of an empty row", x.tear(0), 1);
    }

    private static void promise6() {
        MovingHills x = new MovingHills();
        Due.fill(x, 0, 1, 2, 3, 4, 5);
        Due.fill(x, 1, 9, 9, 9);
        due.is("copy(0, 1, 1, 0, 2)", x.copy(0, 1, 1, 0, 2), 1);
        due.row("copied", x, 1, 2, 3, 9);
        due.is("copy(0, 0, 0, 1, 4)", x.copy(0, 0, 0, 1, 4), 1);
        due.row("to itself, rightwards", x, 0, 1, 1, 2, 3, 4);
        due.is("copy(0, 2, 0, 0, 3)", x.copy(0, 2, 0, 0, 3), 1);
        due.row("to itself, leftwards", x, 0, 2, 3, 4, 3, 4);
        due.is("copy(0, 5, 1, 3, 0)", x.copy(0, 5, 1, 3, 0), 1);
        due.is("copy(6, ..)", x.copy(6, 0, 0, 0, -1), Due.BAD);
        due.is("copy(.., -1, ..)", x.copy(0, 0, -1, 0, 1), Due.BAD);
        due.finds("n below 0", x, x.copy(2, 0, 0, 0, -1), Due.SIZE);
        due.finds("from a missing row", x, x.copy(2, 0, 0, 0, 99), Due.NOTHING);
        due.finds("to a missing row", x, x.copy(0, 99, 2, 0, 1), Due.NOTHING);
        due.finds("too many from", x, x.copy(0, 4, 1, 0, 2), Due.BEYOND);
        due.finds("too many to", x, x.copy(0, 0, 1, 2, 2), Due.BEYOND);
        due.finds("from below 0", x, x.copy(0, -1, 1, 0, 1), Due.BEYOND);
        due.finds("to below 0", x, x.copy(0, 0, 1, -1, 1), Due.BEYOND);
        due.finds("none from too far", x, x.copy(0, 6, 1, 0, 0), Due.BEYOND);
        due.finds("a sum that wraps", x, x.copy(0, 1, 1, 0, Integer.MAX_VALUE), Due.BEYOND);
        due.finds("a place that wraps", x, x.copy(0, Integer.MAX_VALUE, 1, 0, 1), Due.BEYOND);
        due.row("refused copies change nothing", x, 0, 2, 3, 4, 3, 4);
        due.row("refused copies change nothing", x, 1, 2, 3, 9);
        due.is("asked() is of lay() and at()", x.asked(), 9);
    }

    private static void promise7() {
        MovingHills x = new MovingHills();
        Due.fill(x, 0, 1, 2, 5);
        due.tells("mean", x, x.mean(0), 1, 2);
        Due.fill(x, 0, -1, -2, -5);
        due.tells("mean below 0 is cut", x, x.mean(0), 1, -2);
        Due.fill(x, 0, 0, -3);
        due.tells("mean -1.5 is cut", x, x.mean(0), 1, -1);
        Due.fill(x, 0, Integer.MAX_VALUE, Integer.MAX_VALUE);
        due.tells("mean of large ones", x, x.mean(0), 1, Integer.MAX_VALUE);
        Due.fill(x, 0, Integer.MIN_VALUE, Integer.MIN_VALUE, Integer.MIN_VALUE);
        due.tells("mean of least ones", x, x.mean(0), 1, Integer.MIN_VALUE);
        due.is("mean(6)", x.mean(6), Due.BAD);
        due.is("mean(-1)", x.mean(-1), Due.BAD);
        due.finds("mean(1)", x, x.mean(1), Due.NOTHING);
        x.row(1, 0);
        due.finds("mean of none", x, x.mean(1), Due.NOUGHT);
        due.is("asked()", x.asked(), Integer.MIN_VALUE);
    }

    private static void promise8and9() {
        MovingHills x = new MovingHills();
        due.is("text(0, 0)", x.text(0, 0), 0);
        due.is("text(3, 80)", x.text(3, 80), 80);
        due.is("count(7)", x.count(7), 2);
        due.is("text(4, 1)", x.text(4, 1), Due.BAD);
        due.is("text(-1, -1)", x.text(-1, -1), Due.BAD);
        due.is("text(1, 81)", x.text(1, 81), Due.BAD);
        due.finds("text(1, -1)", x, x.text(1, -1), Due.SIZE);
        due.is("put(3, 79, 65)", x.put(3, 79, 65), 1032);
        due.is("put(3, 79, 300)", x.put(3, 79, 300), 1065);
        due.is("put(3, 79, 200)", x.put(3, 79, 200), 1044);
        due.is("put(3, 79, -128)", x.put(3, 79, -128), 944);
        due.is("put(3, 79, 0)", x.put(3, 79, 0), 872);
        due.is("put(4, 0, 0)", x.put(4, 0, 0), Due.BAD);
        due.is("put(-1, 0, 0)", x.put(-1, 0, 0), Due.BAD);
        due.finds("put(1, 0, 0)", x, x.put(1, 0, 0), Due.NOTHING);
        due.finds("put(3, 80, 0)", x, x.put(3, 80, 0), Due.BEYOND);
        due.finds("put(3, -1, 0)", x, x.put(3, -1, 0), Due.BEYOND);
        due.finds("put(0, 0, 0)", x, x.put(0, 0, 0), Due.BEYOND);
        due.is("text(3, 80) anew", x.text(3, 80), 80);
        due.is("a blank again", x.put(3, 79, 1), 1032);
        due.is("asked() is not told by put()", x.asked(), 0);
    }
}
