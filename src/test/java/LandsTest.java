/** Promises 10 to 16: faults, lands, spots, bands, marks, frost, moves. */
public final class LandsTest {
    private static final Due due = new Due();

    public static void main(String[] args) {
        promise10();
        promise11();
        promise12();
        promise13();
        promise14();
        promise15();
        promise16();
        due.end("LandsTest");
    }

    private static void fault(String text, int want) {
        MovingHills x = new MovingHills();
        Due.write(x, 2, text);
        due.is("fault of '" + text + "'", x.fault(2), want);
        int spots = 0;
        for (int i = text.indexOf('g') + 1; i < text.length() && Character.isDigit(text.charAt(i)); i++) spots++;
        due.is("land of '" + text + "'", x.land(2), want == Due.NONE ? spots : Due.STATE);
        due.is("finding() of '" + text + "'", x.finding(), 0);
    }

    private static void promise10() {
        fault("", 0);
        fault("   ", 3);
        fault("x12", 0);
        fault("G12", 0);
        fault(" b01", 1);
        fault("1", 0);
        fault("g", 1);
        fault(" g", 2);
        fault("gx", 1);
        fault("g ", 1);
        fault("g 12", 1);
        fault("g1", 2);
        fault("g1 ", 2);
        fault("g1b01", 2);
        fault("g1 2", 2);
        fault("g12", Due.NONE);
        fault("  g12  ", Due.NONE);
        fault("g1234567890", Due.NONE);
        fault("g12345678901", 11);
        fault("g12x", 3);
        fault("g12 x", 4);
        fault("g12 3", 4);
        fault("g12 g12", 4);
        fault("g12 b", 5);
        fault("g12 bx", 5);
        fault("g12 b 11", 5);
        fault("g12 b21", 5);
        fault("g12 b1", 6);
        fault("g12 b10", 6);
        fault("g12 b1x", 6);
        fault("g12 b1 1", 6);
        fault("g12 b11", Due.NONE);
        fault("g12b11", Due.NONE);
        fault("g12 b11x", 7);
        fault("g12 b111", 7);
        fault("g12b11d02p19", Due.NONE);
        fault("   g12   c11 t02    e19   ", Due.NONE);
        fault("g12 b11 b11 b11 b11", 16);
        fault("g12 b11 b11 b11 b", 16);
        fault("g12 b11 b11 b11 x", 16);
        fault("g1234567890 b99", Due.NONE);
        // '/' and ':' stand just beside the figures.
        fault("g/2", 1);
        fault("g1:", 2);
        fault("g12 b/1", 5);
        fault("g1234567890 b:1", 13);
        fault("g12 b1/", 6);
        fault("g12 b1:", 6);
        MovingHills x = new MovingHills();
        due.is("fault(4)", x.fault(4), Due.BAD);
        due.is("fault(-1)", x.fault(-1), Due.BAD);
        due.finds("fault(0)", x, x.fault(0), Due.NOTHING);
        Due.write(x, 0, "g12");
        x.put(0, 0, 103 + 256);
        due.is("a letter cut to a byte", x.fault(0), Due.NONE);
        x.put(0, 2, 50 + 128);
        due.is("a byte below 0", x.fault(0), 2);
        x.text(0, 80);
        due.is("80 blanks", x.fault(0), 80);
    }

    private static void promise11() {
        MovingHills x = Due.of("g3412 b01 d12");
        x.frost(5);
        x.evening(4);
        x.keep(0);
        x.keep(2);
        Due.write(x, 1, "g12");
        x.put(1, 0, 'h');
        long digest = x.digest();
        due.is("land with a FAULT", x.land(1), Due.STATE);
        due.is("land(4)", x.land(4), Due.BAD);
        due.is("land(-1)", x.land(-1), Due.BAD);
        due.finds("land(2)", x, x.land(2), Due.NOTHING);
        due.is("a refused land changes nothing", x.digest(), digest);
        x.put(1, 0, 'g');
        due.is("land(1)", x.land(1), 2);
        due.heights("land(1)", x, 1, 2);
        for (int what = 1; what <= 8; what++) {
            int want = what == 3 ? 1 : what == 7 ? 2 : 0;
            due.is("land(1), count(" + what + ")", x.count(what), want);
        }
        due.finds("kept LANDS go", x, x.on(0), Due.NOTHING);
        due.is("no BANDS", x.band(0, 0), Due.BAD);
        due.is("land(0) again", x.land(0), 4);
        due.tells("what BAND 0 MOVED", x, x.band(0, 4), 1, 0);
        due.tells("what BAND 1 MOVED", x, x.band(1, 4), 1, 0);
    }

    private static void promise12() {
        MovingHills x = Due.of("g9075312468");
        due.heights("g9075312468", x, 9, 0, 7, 5, 3, 1, 2, 4, 6, 8);
        x.frost(512 + 1);
        due.tells("spot(0)", x, x.spot(0), 1, 9);
        due.tells("spot(1)", x, x.spot(1), 0, 0);
        due.tells("spot(9)", x, x.spot(9), 1, 8);
        due.tells("spot(10)", x, x.spot(10), Due.BAD, 8);
        due.tells("spot(-1)", x, x.spot(-1), Due.BAD, 8);
    }

    private static void promise13() {
        MovingHills x = Due.of("g1111111111 b51 t42 e09");
        int[][] want = {{0, 5, 1, 16 + 64, 0}, {4, 4, 2, 1023 - 16 - 512, 0}, {5, 0, 9, 1022, 0}};
        for (int i = 0; i < 3; i++) {
            for (int what = 0; what < 5; what++) {
                due.tells("band(" + i + ", " + what + ")", x, x.band(i, what), 1, want[i][what]);
            }
        }
        due.tells("band(3, 0)", x, x.band(3, 0), Due.BAD, 0);
        due.is("band(-1, 0)", x.band(-1, 0), Due.BAD);
        due.is("band(0, 5)", x.band(0, 5), Due.BAD);
        due.is("band(0, -1)", x.band(0, -1), Due.BAD);
        x.evening(1);
        due.tells("MOVED by a MARCH", x, x.band(0, 4), 1, 2);
        x.evening(2);
        due.tells("MOVED by a LULLABY, too", x, x.band(0, 4), 1, 2);
        due.tells("MOVED by another one", x, x.band(1, 4), 1, 0);
        MovingHills kinds = Due.of("g11 d01 p01 c01");
        for (int i = 0; i < 3; i++) due.tells("KIND of BAND " + i, kinds, kinds.band(i, 0), 1, i + 1);
    }

    private static void promise14() {
        MovingHills x = Due.of("g100210340 c42 t61 e15");
        int[][] want = {
            {Due.FINDING, Due.FINDING, 4, Due.FINDING, Due.FINDING},
            {3, Due.FINDING, Due.FINDING, 1, Due.FINDING},
            {Due.FINDING, 4, Due.FINDING, Due.FINDING, 2}};
        long digest = x.digest();
        for (int i = 0; i < 3; i++) {
            for (int kind = 1; kind <= 5; kind++) {
                due.is("mark(" + i + ", " + kind + ")", x.mark(i, kind), want[i][kind - 1]);
            }
        }
        due.is("mark() changes nothing", x.digest(), digest);
        due.is("finding()", x.finding(), Due.UNLIKE);
        due.is("findings(3)", x.findings(3), 10);
        due.is("mark(0, 0)", x.mark(0, 0), Due.BAD);
        due.is("mark(0, 6)", x.mark(0, 6), Due.BAD);
        due.is("mark(3, 1)", x.mark(3, 1), Due.BAD);
        due.is("mark(-1, 1)", x.mark(-1, 1), Due.BAD);
        x.frost(128);
        due.is("a DRUM on FROST", x.mark(1, 1), 1);
        x.frost(8);
        due.is("an ECHO on FROST", x.mark(2, 5), 1);
        due.is("a PIPE tells of FROST nothing", x.mark(2, 2), 4);
        MovingHills y = Due.of("g31100 b09 d29 p29");
        due.finds("a BAND alone is no DRUM", y, y.mark(0, 1), Due.UNLIKE);
        due.is("a DRUM", y.mark(1, 1), 3);
        due.finds("a DRUM is no BIG DRUM", y, y.mark(1, 4), Due.UNLIKE);
        due.is("a PIPE", y.mark(2, 2), 3);
        due.finds("a PIPE is no ECHO", y, y.mark(2, 5), Due.UNLIKE);
        MovingHills z = Due.of("g22 t19 c12");
        due.is("a BIG DRUM by its LOUDNESS", z.mark(0, 4), 9);
        due.is("a CHOIR on the last SPOT", z.mark(1, 3), 0);
    }

    private static void promise15() {
        MovingHills x = Due.of("g0300 b02");
        due.is("frost(2)", x.frost(2), 0);
        due.is("frost(9)", x.frost(9), 2);
        due.is("count(4)", x.count(4), 2);
        due.is("frost(16)", x.frost(16), Due.BAD);
        due.is("frost(-1)", x.frost(-1), Due.BAD);
        due.is("frost(min)", x.frost(Integer.MIN_VALUE), Due.BAD);
        due.is("frost(15)", x.frost(15), 9);
        due.is("nothing is MOVED", x.evening(1), 0);
        due.is("frost(1)", x.frost(1), 15);
        due.is("FROST where inches come to", x.evening(1), 1);
        due.heights("FROST where inches come to", x, 1, 2, 0, 0);
    }

    private static void promise16() {
        MovingHills x = Due.of("g0300 b02 d31");
        due.is("move(0, 3)", x.move(0, 3), 0);
        due.is("move(0, 3) again", x.move(0, 3), 3);
        due.tells("HEARD there", x, x.band(0, 3), 1, 6);
        due.is("move(1, 0)", x.move(1, 0), 3);
        due.is("move(2, 0)", x.move(2, 0), Due.BAD);
        due.is("move(-1, 0)", x.move(-1, 0), Due.BAD);
        due.is("move(0, 4)", x.move(0, 4), Due.BAD);
        due.is("move(0, -1)", x.move(0, -1), Due.BAD);
        due.is("a MARCH to there", x.evening(1), 1);
        due.heights("a MARCH to there", x, 0, 2, 1, 0);
    }
}
