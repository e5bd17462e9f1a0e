import java.util.function.ToIntFunction;

/** Counts answers that are not the due ones; the tests of the project share it. */
final class Due {
    static final int BAD = -1, FULL = -2, FINDING = -3, STATE = -4, SPENT = -6, NONE = -9;
    static final int NOTHING = 1, BEYOND = 2, UNLIKE = 3, NOUGHT = 4, SIZE = 5;
    static final int MAX = Integer.MAX_VALUE, MIN = Integer.MIN_VALUE;

    private int checks = 0;
    private int wrong = 0;
    private String about = "";

    /** What the next answers are about; it is told ahead of each one that is not as due. */
    void about(String what) {
        about = what + ": ";
    }

    int checks() {
        return checks;
    }

    void is(String what, long got, long want) {
        checks++;
        if (got == want) return;
        wrong++;
        System.out.println(about + what + " answered " + got + ", due is " + want);
    }

    void holds(String what, boolean so) {
        is(what, so ? 1 : 0, 1);
    }

    /** The answer, and what asked() tells behind it. */
    void tells(String what, MovingHills x, long got, long want, long asked) {
        is(what, got, want);
        is(what + ", asked()", x.asked(), asked);
    }

    /** A FINDING: which one, told once more than ahead. */
    void finds(String what, MovingHills x, long got, int finding) {
        is(what, got, FINDING);
        is(what + ", finding()", x.finding(), finding);
    }

    /** Refused, or NONE: nothing is changed, finding() and findings() neither. */
    void refused(String what, MovingHills x, int want, ToIntFunction<MovingHills> call) {
        long[] ahead = state(x);
        is(what, call.applyAsInt(x), want);
        same(what, x, ahead);
    }

    void bad(String what, MovingHills x, ToIntFunction<MovingHills> call) {
        refused(what, x, BAD, call);
    }

    /** A FINDING: nothing is changed but finding() and findings(). */
    void found(String what, MovingHills x, int finding, ToIntFunction<MovingHills> call) {
        long[] want = state(x);
        want[2] = finding;
        want[2 + finding]++;
        is(what, call.applyAsInt(x), FINDING);
        same(what, x, want);
    }

    private static long[] state(MovingHills x) {
        return new long[] {x.digest(), x.asked(), x.finding(),
            x.findings(1), x.findings(2), x.findings(3), x.findings(4), x.findings(5)};
    }

    private void same(String what, MovingHills x, long[] want) {
        String[] names = {"digest()", "asked()", "finding()",
            "findings(1)", "findings(2)", "findings(3)", "findings(4)", "findings(5)"};
        long[] got = state(x);
        for (int i = 0; i < names.length; i++) is(what + ", then " + names[i], got[i], want[i]);
    }

    void heights(String what, MovingHills x, int... want) {
        is(what + ", count(0)", x.count(0), want.length);
        for (int s = 0; s < want.length; s++) {
            x.spot(s);
            is(what + ", SPOT " + s, x.asked(), want[s]);
        }
    }

    void row(String what, MovingHills x, int r, int... want) {
        for (int i = 0; i < want.length; i++) {
            is(what + ", ROW " + r + " has place " + i, x.at(r, i), 1);
            is(what + ", ROW " + r + " place " + i, x.asked(), want[i]);
        }
        is(what + ", ROW " + r + " ends", x.at(r, want.length), FINDING);
    }

    void end(String name) {
        System.out.println(name + ": " + checks + " answers, " + wrong + " not as due");
        if (wrong != 0) System.exit(1);
    }

    static void write(MovingHills x, int t, String text) {
        x.text(t, text.length());
        for (int i = 0; i < text.length(); i++) x.put(t, i, text.charAt(i));
    }

    static MovingHills of(String land) {
        MovingHills x = new MovingHills();
        write(x, 0, land);
        if (x.land(0) < 0) throw new IllegalStateException("no land: " + land);
        return x;
    }

    static void fill(MovingHills x, int r, int... values) {
        x.row(r, values.length);
        for (int i = 0; i < values.length; i++) x.lay(r, i, values[i]);
    }

    /** A LAND on which so many EVENINGS of silence were played. */
    static MovingHills evenings(String land, int n) {
        MovingHills x = of(land);
        for (int e = 0; e < n; e++) x.evening(0);
        return x;
    }
}
