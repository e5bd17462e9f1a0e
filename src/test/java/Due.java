/** Counts answers that are not the due ones; the tests of the project share it. */
final class Due {
    static final int BAD = -1, FULL = -2, FINDING = -3, STATE = -4, NONE = -9;
    static final int NOTHING = 1, BEYOND = 2, UNLIKE = 3, NOUGHT = 4, SIZE = 5;

    private int checks = 0;
    private int wrong = 0;

    void is(String what, long got, long want) {
        checks++;
        if (got == want) return;
        wrong++;
        System.out.println(what + " answered " + got + ", due is " + want);
    }

    void holds(String what, boolean so) {
        is(what, so ? 1 : 0, 1);
    }

    /** The answer, and what asked() tells behind it. */
    void tells(String what, MovingHills x, long got, long want, long asked) {
        is(what, got, want);
        is(what + ", asked()", x.asked(), asked);
    }

    /** A FINDING: which one, told once more than ahead. */
    void finds(String what, MovingHills x, long got, int finding) {
        is(what, got, FINDING);
        is(what + ", finding()", x.finding(), finding);
    }

    void heights(String what, MovingHills x, int... want) {
        is(what + ", count(0)", x.count(0), want.length);
        for (int s = 0; s < want.length; s++) {
            x.spot(s);
            is(what + ", SPOT " + s, x.asked(), want[s]);
        }
    }

    void row(String what, MovingHills x, int r, int... want) {
        for (int i = 0; i < want.length; i++) {
            x.at(r, i);
            is(what + ", ROW " + r + " place " + i, x.asked(), want[i]);
        }
        is(what + ", ROW " + r + " ends", x.at(r, want.length), FINDING);
    }

    void end(String name) {
        System.out.println(name + ": " + checks + " answers, " + wrong + " not as due");
        if (wrong != 0) System.exit(1);
    }

    static void write(MovingHills x, int t, String text) {
        x.text(t, text.length());
        for (int i = 0; i < text.length(); i++) x.put(t, i, text.charAt(i));
    }

    static MovingHills of(String land) {
        MovingHills x = new MovingHills();
        write(x, 0, land);
        if (x.land(0) < 0) throw new IllegalStateException("no land: " + land);
        return x;
    }

    static void fill(MovingHills x, int r, int... values) {
        x.row(r, values.length);
        for (int i = 0; i < values.length; i++) x.lay(r, i, values[i]);
    }
}
