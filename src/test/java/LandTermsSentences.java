/** "Terms": what a LAND is, where its FAULT is, what BANDS do by their KINDS and TUNES. */
final class LandTermsSentences {
    private static final String LETTERS = "bdpcte";

    private LandTermsSentences() {
    }

    static void run(Sentences s) {
        s.test("A LAND (without SPOTS at first) is a TEXT:", LandTermsSentences::aText);
        s.test("blanks (32) ahead, between, behind as many as wanted,", LandTermsSentences::blanks);
        s.test("none within items.", LandTermsSentences::noneWithin);
        s.test("The first item is g (103)", LandTermsSentences::firstItem);
        s.test("and the HEIGHTS of SPOTS 0, 1, .. (2 to 10 figures);", LandTermsSentences::figures);
        s.test("then BANDS 0, 1, .. (3 at most; as they come):", LandTermsSentences::threeBands);
        s.test("a letter, a SPOT (one figure), the LOUDNESS (1 .. 9, one figure).", LandTermsSentences::bandItem);
        s.test("A FAULT is the first place at which it can't go on so", LandTermsSentences::firstPlace);
        s.test("(a letter, a figure that is none such,", LandTermsSentences::noneSuch);
        s.test("an eleventh SPOT,", LandTermsSentences::eleventh);
        s.test("no SPOT: its place;", LandTermsSentences::noSpot);
        s.test("behind one HEIGHT alone: the place behind it;", LandTermsSentences::oneHeight);
        s.test("a fourth BAND: its letter;", LandTermsSentences::fourthBand);
        s.test("the TEXT's size, if its end comes too early,", LandTermsSentences::tooEarly);
        s.test("or there are blanks alone).", LandTermsSentences::blanksAlone);
        s.test("KINDS of BANDS and letters: 0 BAND (b, 98),", due -> kind(due, 98, 0, 0));
        s.test("1 DRUM (d, 100; a BAND),", due -> kind(due, 100, 1, 1 << 1));
        s.test("2 PIPE (p, 112; a BAND),", due -> kind(due, 112, 2, 1 << 2));
        s.test("3 CHOIR (c, 99; a BAND),", due -> kind(due, 99, 3, 1 << 3));
        s.test("4 BIG DRUM (t, 116; a DRUM),", due -> kind(due, 116, 4, 1 << 4 | 1 << 1));
        s.test("5 ECHO (e, 101; a PIPE).", due -> kind(due, 101, 5, 1 << 5 | 1 << 2));
        s.test("A BAND is HEARD on SPOTS no farther than its LOUDNESS", due -> heard(due, "bdpce", 1));
        s.test("(a BIG DRUM: twice that),", due -> heard(due, "t", 2));
        s.test("but not on its own.", LandTermsSentences::notOnItsOwn);
        s.test("It MOVES 1 inch of the HEIGHT of a SPOT", LandTermsSentences::oneInch);
        s.test("(a DRUM, a BIG DRUM, too, 2, or 1, if there is no more),", LandTermsSentences::twoInches);
        s.test("if there is one;", LandTermsSentences::ifThereIsOne);
        s.test("a PIPE (an ECHO, too) none of a SPOT that is less than 2 high;", LandTermsSentences::lessThan2);
        s.test("a CHOIR none but to the right of it.", LandTermsSentences::rightOfIt);
        s.test("TUNES are 0 silence,", LandTermsSentences::silence);
        s.test("1 a MARCH: inches go 1 SPOT nearer to the BAND;", LandTermsSentences::march);
        s.test("2 a LULLABY: 1 SPOT off from it", LandTermsSentences::lullaby);
        s.test("(none from the first and last SPOT that way: they stay).", LandTermsSentences::theyStay);
        s.test("An ECHO does it the other way round (a MARCH as a LULLABY).", LandTermsSentences::echo);
        s.test("A BAND's TUNE goes SPOT by SPOT: what comes nearer from the nearest SPOTS on,",
            LandTermsSentences::nearestOn);
        s.test("what goes off from the farthest on;", LandTermsSentences::farthestOn);
        s.test("of two as far the left one first.", LandTermsSentences::bothSides);
        s.test("On a SPOT with FROST", LandTermsSentences::frost);
        s.test("(none at first)", due -> due.is("frost(0) of a LAND", Due.of("g12 b01").frost(0), 0));
        s.test("nothing is MOVED from it.", LandTermsSentences::notFromIt);
    }

    private static void fault(Due due, String text, int want) {
        MovingHills x = new MovingHills();
        Due.write(x, 1, text);
        due.is("fault of '" + text + "'", x.fault(1), want);
    }

    private static void fine(Due due, String text, int spots, int bands) {
        fault(due, text, Due.NONE);
        MovingHills x = new MovingHills();
        Due.write(x, 1, text);
        due.is("land of '" + text + "'", x.land(1), spots);
        due.is("BANDS of '" + text + "'", x.count(1), bands);
    }

    private static void plays(Due due, String land, int tune, int inches, int... want) {
        playsOnFrost(due, land, 0, tune, inches, want);
    }

    private static void playsOnFrost(Due due, String land, int frost, int tune, int inches, int... want) {
        MovingHills x = Due.of(land);
        x.frost(frost);
        String what = land + " with FROST " + frost + " by " + tune;
        due.is(what, x.evening(tune), inches);
        due.heights(what, x, want);
    }

    private static void aText(Due due) {
        due.is("count(0) at first", new MovingHills().count(0), 0);
        for (int t = 0; t < 4; t++) {
            MovingHills x = new MovingHills();
            Due.write(x, t, "g12b01");
            due.is("count(0) by a TEXT alone", x.count(0), 0);
            due.is("land(" + t + ")", x.land(t), 2);
            due.is("count(0)", x.count(0), 2);
        }
    }

    private static void blanks(Due due) {
        fine(due, "g12b11d02", 2, 2);
        fine(due, " g12 b11 d02 ", 2, 2);
        fine(due, "    g12   b11     d02   ", 2, 2);
        fine(due, " ".repeat(77) + "g12", 2, 0);
        fine(due, "g12" + " ".repeat(77), 2, 0);
        fine(due, "g12" + " ".repeat(74) + "b11", 2, 1);
        for (int sign = -128; sign < 128; sign++) {
            if (sign == 32) continue;
            fault(due, sign + "", sign, 0, "?g12", sign == 103 ? 1 : 0);
            if (sign < 48 || sign > 57) fault(due, sign + " behind", sign, 3, "g12?", isLetter(sign) ? 4 : 3);
        }
    }

    private static boolean isLetter(int sign) {
        return sign > 0 && LETTERS.indexOf(sign) >= 0;
    }

    private static boolean isFigure(int sign) {
        return sign >= '0' && sign <= '9';
    }

    /** The FAULT of a TEXT with some sign at a place. */
    private static void fault(Due due, String what, int sign, int place, String text, int want) {
        MovingHills x = new MovingHills();
        Due.write(x, 0, text);
        x.put(0, place, sign);
        due.is("fault of '" + text + "' with the sign " + what + " at " + place, x.fault(0), want);
    }

    private static void noneWithin(Due due) {
        fault(due, "g 12", 1);
        fault(due, "g1 2", 2);
        fault(due, "g12 b 11", 5);
        fault(due, "g12 b1 1", 6);
    }

    private static void firstItem(Due due) {
        fault(due, "12", 0);
        fault(due, "b11 g12", 0);
        fault(due, "  b11 g12", 2);
        fault(due, "g12 g34", 4);
        for (int sign = -128; sign < 128; sign++) {
            fault(due, sign + "", sign, 0, "g12 b19", sign == 103 ? Due.NONE : sign == 32 ? 1 : 0);
        }
    }

    private static void figures(Due due) {
        String all = "g0123456789";
        fault(due, "g", 1);
        fault(due, "g0", 2);
        for (int n = 2; n <= 10; n++) {
            fine(due, all.substring(0, n + 1), n, 0);
            MovingHills x = Due.of(all.substring(0, n + 1));
            for (int i = 0; i < n; i++) due.tells("spot(" + i + ") of " + n, x, x.spot(i), 0, i);
            due.bad("spot(" + n + ") of " + n, x, y -> y.spot(y.count(0)));
        }
        fault(due, "g01234567890", 11);
    }

    private static void threeBands(Due due) {
        fine(due, "g12", 2, 0);
        fine(due, "g12 b01", 2, 1);
        fine(due, "g12 b01 b01", 2, 2);
        fine(due, "g12 b01 b01 b01", 2, 3);
        fault(due, "g12 b01 b01 b01 b01", 16);
        MovingHills x = Due.of("g123 e21 b02 t13");
        int[][] want = {{5, 2, 1}, {0, 0, 2}, {4, 1, 3}};
        for (int i = 0; i < 3; i++) {
            for (int what = 0; what < 3; what++) {
                due.tells("band(" + i + ", " + what + ")", x, x.band(i, what), 1, want[i][what]);
            }
        }
    }

    private static void bandItem(Due due) {
        for (int x = 0; x <= 9; x++) {
            for (int loud = 0; loud <= 9; loud++) {
                String text = "g1234567890 p" + x + loud;
                fault(due, text, loud == 0 ? 14 : Due.NONE);
                if (loud == 0) continue;
                MovingHills hills = Due.of(text);
                due.tells("SPOT of " + text, hills, hills.band(0, 1), 1, x);
                due.tells("LOUDNESS of " + text, hills, hills.band(0, 2), 1, loud);
            }
        }
        fault(due, "g12 b110", 7);
        fault(due, "g12 b1 b11", 6);
        fault(due, "g12 11", 4);
    }

    private static void firstPlace(Due due) {
        fault(due, "h1 b", 0);
        fault(due, "g1 b29 b", 2);
        fault(due, "g12 x b99", 4);
        fault(due, "g12 b99 x", 5);
        fault(due, "g12 b10 x", 6);
        fault(due, "g12 b11 b90", 9);
        fault(due, "g12345678901 b", 11);
    }

    /** Every sign at every place of a TEXT; firstItem() has place 0. */
    private static void noneSuch(Due due) {
        for (int sign = -128; sign < 128; sign++) {
            String what = sign + "";
            fault(due, what, sign, 1, "g12 b19", isFigure(sign) ? Due.NONE : 1);
            fault(due, what, sign, 2, "g12 b19", isFigure(sign) ? Due.NONE : 2);
            int third = isFigure(sign) || sign == 32 ? Due.NONE : isLetter(sign) ? 4 : 3;
            fault(due, what, sign, 3, "g12 b19", third);
            fault(due, what, sign, 4, "g12 b19", isLetter(sign) ? Due.NONE : sign == 32 ? 5 : 4);
            fault(due, what, sign, 5, "g12 b19", sign == '0' || sign == '1' ? Due.NONE : 5);
            fault(due, what, sign, 6, "g12 b19", isFigure(sign) && sign != '0' ? Due.NONE : 6);
        }
    }

    private static void eleventh(Due due) {
        fault(due, "g1234567890", Due.NONE);
        fault(due, "g12345678901", 11);
        fault(due, "   g123456789012345", 14);
        fault(due, "g12345678901 b01", 11);
    }

    private static void noSpot(Due due) {
        fault(due, "g12 b11", Due.NONE);
        fault(due, "g12 b21", 5);
        fault(due, "g123456789 b81", Due.NONE);
        fault(due, "g123456789 b91", 12);
        fault(due, "g1234567890 b91", Due.NONE);
        fault(due, "g12 b01 b11 b21", 13);
    }

    private static void oneHeight(Due due) {
        fault(due, "g1", 2);
        fault(due, "g1 ", 2);
        fault(due, "  g1  ", 4);
        fault(due, "g1b01", 2);
        fault(due, "g1 b01", 2);
        fault(due, "g1x", 2);
    }

    private static void fourthBand(Due due) {
        fault(due, "g12b01b01b01", Due.NONE);
        fault(due, "g12b01b01b01b01", 12);
        fault(due, "g12 b01 b01 b01  t01", 17);
        fault(due, "g12 b01 b01 b01 b", 16);
        fault(due, "g12 b01 b01 b01   ", Due.NONE);
    }

    private static void tooEarly(Due due) {
        fault(due, "g", 1);
        fault(due, "   g", 4);
        fault(due, "g1", 2);
        fault(due, "g12 b", 5);
        fault(due, "g12 b1", 6);
        fault(due, "g12 b11 d", 9);
        fault(due, "g12 b11 d0", 10);
        fault(due, " ".repeat(79) + "g", 80);
        fault(due, " ".repeat(75) + "g12b1", 80);
    }

    private static void blanksAlone(Due due) {
        for (int n = 0; n <= 80; n++) fault(due, " ".repeat(n), n);
    }

    private static void kind(Due due, int letter, int kind, int is) {
        MovingHills x = Due.of("g3210 " + (char) letter + "12");
        due.tells("the KIND", x, x.band(0, 0), 1, kind);
        for (int other = 1; other <= 5; other++) {
            int answer = x.mark(0, other);
            due.holds("mark(0, " + other + ") of KIND " + kind, answer == Due.FINDING == ((is >> other & 1) == 0));
        }
        due.is("DRUMS", x.count(5), is >> 1 & 1);
    }

    private static void heard(Due due, String letters, int times) {
        for (char letter : letters.toCharArray()) {
            for (int x = 0; x <= 9; x++) {
                for (int loud = 1; loud <= 9; loud++) {
                    int bits = 0;
                    for (int d = 1; d <= times * loud; d++) {
                        if (x - d >= 0) bits |= 1 << x - d;
                        if (x + d <= 9) bits |= 1 << x + d;
                    }
                    String land = "g9999999999 " + letter + x + loud;
                    MovingHills hills = Due.of(land);
                    due.tells("HEARD of " + land, hills, hills.band(0, 3), 1, bits);
                }
            }
        }
        // A MARCH by a CHOIR or BAND on SPOT 0 MOVES from the SPOTS on which it is HEARD alone.
        if (times == 1) plays(due, "g099999 b03", 1, 3, 1, 9, 9, 8, 9, 9);
        else plays(due, "g099999 t02", 1, 8, 2, 9, 9, 9, 7, 9);
    }

    private static void notOnItsOwn(Due due) {
        for (char letter : LETTERS.toCharArray()) {
            MovingHills x = Due.of("g090 " + letter + "19");
            due.tells("HEARD", x, x.band(0, 3), 1, 5);
            due.is("a MARCH from its own SPOT", x.evening(1), 0);
            due.is("a LULLABY from its own SPOT", x.evening(2), 0);
            due.heights("its own SPOT", x, 0, 9, 0);
        }
    }

    private static void oneInch(Due due) {
        for (char letter : "bpc".toCharArray()) {
            for (int high = 2; high <= 9; high++) plays(due, "g0" + high + "0 " + letter + "01", 1, 1, 1, high - 1, 0);
        }
        plays(due, "g090 e01", 2, 1, 1, 8, 0);
        plays(due, "g010 b01", 1, 1, 1, 0, 0);
        plays(due, "g010 c01", 1, 1, 1, 0, 0);
    }

    private static void twoInches(Due due) {
        for (char letter : "dt".toCharArray()) {
            plays(due, "g00 " + letter + "01", 1, 0, 0, 0);
            plays(due, "g01 " + letter + "01", 1, 1, 1, 0);
            plays(due, "g02 " + letter + "01", 1, 2, 2, 0);
            plays(due, "g03 " + letter + "01", 1, 2, 2, 1);
            plays(due, "g09 " + letter + "01", 1, 2, 2, 7);
            plays(due, "g010 " + letter + "01", 2, 1, 0, 0, 1);
            plays(due, "g030 " + letter + "01", 2, 2, 0, 1, 2);
        }
    }

    private static void ifThereIsOne(Due due) {
        for (char letter : LETTERS.toCharArray()) {
            plays(due, "g0000 " + letter + "19", 1, 0, 0, 0, 0, 0);
            plays(due, "g0000 " + letter + "19", 2, 0, 0, 0, 0, 0);
        }
    }

    private static void lessThan2(Due due) {
        plays(due, "g0111 p09", 1, 0, 0, 1, 1, 1);
        plays(due, "g0111 e09", 2, 0, 0, 1, 1, 1);
        plays(due, "g0110 p09", 2, 0, 0, 1, 1, 0);
        plays(due, "g0110 e09", 1, 0, 0, 1, 1, 0);
        plays(due, "g0121 p09", 1, 1, 0, 2, 1, 1);
        plays(due, "g0121 e09", 2, 1, 0, 2, 1, 1);
        plays(due, "g0120 p09", 2, 1, 0, 1, 1, 1);
        plays(due, "g0120 e09", 1, 1, 0, 1, 1, 1);
    }

    private static void rightOfIt(Due due) {
        plays(due, "g22222 c29", 1, 2, 2, 2, 3, 2, 1);
        plays(due, "g22222 c29", 2, 1, 2, 2, 2, 1, 3);
        plays(due, "g22220 c49", 1, 0, 2, 2, 2, 2, 0);
        plays(due, "g02220 c49", 2, 0, 0, 2, 2, 2, 0);
        plays(due, "g02222 c09", 1, 4, 1, 2, 2, 2, 1);
    }

    private static void silence(Due due) {
        for (char letter : LETTERS.toCharArray()) plays(due, "g5555 " + letter + "19", 0, 0, 5, 5, 5, 5);
    }

    private static void march(Due due) {
        plays(due, "g20002 b29", 1, 2, 1, 1, 0, 1, 1);
        plays(due, "g02020 b29", 1, 2, 0, 1, 2, 1, 0);
        plays(due, "g2000 b39", 1, 1, 1, 1, 0, 0);
        plays(due, "g0002 b09", 1, 1, 0, 0, 1, 1);
        plays(due, "g20 b11", 1, 1, 1, 1);
        plays(due, "g02 b01", 1, 1, 1, 1);
    }

    private static void lullaby(Due due) {
        plays(due, "g02020 b29", 2, 2, 1, 1, 0, 1, 1);
        plays(due, "g0200 b09", 2, 1, 0, 1, 1, 0);
        plays(due, "g0020 b39", 2, 1, 0, 1, 1, 0);
    }

    private static void theyStay(Due due) {
        for (char letter : LETTERS.toCharArray()) {
            int off = letter == 'e' ? 1 : 2;
            plays(due, "g900 " + letter + "29", off, 0, 9, 0, 0);
            plays(due, "g009 " + letter + "09", off, 0, 0, 0, 9);
            plays(due, "g909 " + letter + "19", off, 0, 9, 0, 9);
        }
        plays(due, "g33333 b29", 2, 2, 4, 2, 3, 2, 4);
        plays(due, "g30003 b29", 1, 2, 2, 1, 0, 1, 2);
    }

    private static void echo(Due due) {
        plays(due, "g030 e01", 1, 1, 0, 2, 1);
        plays(due, "g030 e01", 2, 1, 1, 2, 0);
        plays(due, "g003 e02", 1, 0, 0, 0, 3);
        plays(due, "g003 e02", 2, 1, 0, 1, 2);
        plays(due, "g0300 e39", 1, 1, 1, 2, 0, 0);
    }

    private static void nearestOn(Due due) {
        plays(due, "g0001 b03", 1, 1, 0, 0, 1, 0);
        plays(due, "g1000 b33", 1, 1, 0, 1, 0, 0);
        plays(due, "g0111 b03", 1, 3, 1, 1, 1, 0);
        plays(due, "g0001 d03", 1, 1, 0, 0, 1, 0);
        plays(due, "g0012 p03", 1, 1, 0, 0, 2, 1);
        plays(due, "g0012 e03", 2, 1, 0, 0, 2, 1);
    }

    private static void farthestOn(Due due) {
        plays(due, "g0100 b03", 2, 1, 0, 0, 1, 0);
        plays(due, "g0010 b33", 2, 1, 0, 1, 0, 0);
        plays(due, "g0110 b03", 2, 2, 0, 0, 1, 1);
        plays(due, "g0200 d03", 2, 2, 0, 0, 2, 0);
        plays(due, "g0210 p03", 2, 1, 0, 1, 2, 0);
        plays(due, "g0210 e03", 1, 1, 0, 1, 2, 0);
    }

    /** What goes on one side never comes to the other one, so HEIGHTS can't tell which was first. */
    private static void bothSides(Due due) {
        plays(due, "g1212121 b33", 1, 6, 0, 2, 1, 4, 1, 2, 0);
        plays(due, "g1212121 b33", 2, 4, 2, 2, 0, 2, 0, 2, 2);
    }

    private static void frost(Due due) {
        playsOnFrost(due, "g090 b01", 2, 1, 0, 0, 9, 0);
        playsOnFrost(due, "g090 b01", 2, 2, 0, 0, 9, 0);
        playsOnFrost(due, "g0909 d03", 8, 1, 2, 2, 7, 0, 9);
        for (char letter : LETTERS.toCharArray()) {
            playsOnFrost(due, "g99099 " + letter + "29", 31, 1, 0, 9, 9, 0, 9, 9);
            playsOnFrost(due, "g99099 " + letter + "29", 31, 2, 0, 9, 9, 0, 9, 9);
        }
    }

    private static void notFromIt(Due due) {
        playsOnFrost(due, "g090 b01", 1, 1, 1, 1, 8, 0);
        playsOnFrost(due, "g090 b01", 1 + 4, 2, 1, 0, 8, 1);
        playsOnFrost(due, "g00200 b04", 2, 1, 1, 0, 1, 1, 0, 0);
    }
}
