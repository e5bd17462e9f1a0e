/** "Terms": what refused means, ROWS and TEXTS, PROGRAMS, LOTS. LandTermsSentences has the rest. */
final class TermsSentences {
    private static final String LAND = "g0390 b01 d33 e21";

    private TermsSentences() {
    }

    static void run(Sentences s) {
        s.in("Terms");
        s.test("Refused is, the first of these that fits, in this order:", TermsSentences::order);
        s.test("BAD -1 (a number that is none, or not as told)", TermsSentences::bad);
        s.test("FULL -2", TermsSentences::full);
        s.test("STATE -4 (not now)", TermsSentences::state);
        s.test("SPENT -6 (more than told)", due -> due.is("SPENT", MovingHills.SPENT, -6));
        s.test("FINDING -3 (finding() tells which)", TermsSentences::finding);
        s.test("unless a call says so otherwise.", TermsSentences::otherwise);
        s.test("NONE -9.", TermsSentences::none);
        s.test("What is refused changes nothing but finding(), findings().", RefusedSentences::changesNothing);
        s.test("FINDINGS: 1 NOTHING (a ROW, a TEXT, a kept LAND that is missing)", TermsSentences::nothing);
        s.test("2 BEYOND (a place that there is not)", TermsSentences::beyond);
        s.test("3 UNLIKE (a BAND of another KIND; a number that is none)", TermsSentences::unlike);
        s.test("4 NOUGHT (shared among none; what can't be)", TermsSentences::nought);
        s.test("5 SIZE (fewer than none; not as many as due).", TermsSentences::size);
        s.test("Sets (of SPOTS, of TUNES) are told by bits.", TermsSentences::sets);
        s.test("1 ROWS 0 .. 5 are rows of 0 to 40 ints,", TermsSentences::rows);
        s.test("TEXTS 0 .. 3 rows of 0 to 80 bytes,", TermsSentences::texts);
        s.test("or missing (at first).", TermsSentences::missing);
        LandTermsSentences.run(s);
        s.test("2 A PROGRAM is a number: for each BAND its TUNE, BAND 0 the lowest figure to the base of 3.",
            TermsSentences::programs);
        s.test("AN EVENING by a PROGRAM: each BAND plays its TUNE, by numbers, one behind the other.",
            TermsSentences::byNumbers);
        s.test("BREATH of it: the LOUDNESS of each BAND that is not silent, together.", TermsSentences::breath);
        s.test("PROGRAMS of more EVENINGS go by the first one, then the second one, ..", TermsSentences::moreEvenings);
        s.test("3 LOTS: a number comes from the one ahead by 48271 times it modulo 2147483647,", TermsSentences::lots);
        s.test("the first from a seed (1 .. 2147483646).", TermsSentences::seeds);
    }

    private static void order(Due due) {
        MovingHills full = Due.evenings(LAND, 60);
        due.bad("BAD ahead of FULL: evening(27)", full, x -> x.evening(27));
        due.bad("BAD ahead of FULL: season(41, 1)", full, x -> x.season(41, 1));
        due.bad("BAD ahead of FULL: season(1, 0)", full, x -> x.season(1, 0));
        MovingHills none = new MovingHills();
        due.bad("BAD ahead of STATE: evening(1)", none, x -> x.evening(1));
        due.bad("BAD ahead of STATE: keep(3)", none, x -> x.keep(3));
        due.bad("BAD ahead of STATE: flat(1, 0)", none, x -> x.flat(1, 0));
        due.bad("BAD ahead of STATE: played(6)", none, x -> x.played(6));
        due.bad("BAD ahead of STATE: twice(6)", none, x -> x.twice(6));
        due.bad("BAD ahead of STATE: far(6)", none, x -> x.far(6));
        due.bad("BAD ahead of STATE: season(0, 1)", none, x -> x.season(0, 1));
        due.refused("STATE ahead of a FINDING: played(0)", none, Due.STATE, x -> x.played(0));
        due.refused("STATE ahead of a FINDING: twice(0)", none, Due.STATE, x -> x.twice(0));
        due.refused("STATE ahead of a FINDING: far(0)", none, Due.STATE, x -> x.far(0));
        MovingHills land = Due.of(LAND);
        due.bad("BAD ahead of a FINDING: row(6, -1)", land, x -> x.row(6, -1));
        due.bad("BAD ahead of a FINDING: lay(6, -1, 0)", land, x -> x.lay(6, -1, 0));
        due.bad("BAD ahead of a FINDING: copy(0, 0, 6, 0, -1)", land, x -> x.copy(0, 0, 6, 0, -1));
        due.bad("BAD ahead of a FINDING: text(4, -1)", land, x -> x.text(4, -1));
        due.bad("BAD ahead of a FINDING: put(4, -1, 0)", land, x -> x.put(4, -1, 0));
        due.bad("BAD ahead of a FINDING: mark(0, 6)", land, x -> x.mark(0, 6));
        due.bad("BAD ahead of a FINDING: could(3, 0)", land, x -> x.could(3, 0));
    }

    private static void bad(Due due) {
        due.is("BAD", MovingHills.BAD, -1);
        MovingHills land = Due.of(LAND);
        due.bad("a number that is none: spot(4)", land, x -> x.spot(4));
        due.bad("not as told: border(2, 1)", land, x -> x.border(2, 1));
    }

    private static void full(Due due) {
        due.is("FULL", MovingHills.FULL, -2);
        due.refused("evening(0) of 60", Due.evenings(LAND, 60), -2, x -> x.evening(0));
    }

    private static void state(Due due) {
        due.is("STATE", MovingHills.STATE, -4);
        due.refused("top() without SPOTS", new MovingHills(), -4, MovingHills::top);
    }

    private static void finding(Due due) {
        due.is("FINDING", MovingHills.FINDING, -3);
        due.found("at(0, 0)", new MovingHills(), Due.NOTHING, x -> x.at(0, 0));
    }

    /** What is last elsewhere is so in those calls alone: a TEXT that is missing is no FAULT. */
    private static void otherwise(Due due) {
        due.found("land(0): NOTHING ahead of STATE", new MovingHills(), Due.NOTHING, x -> x.land(0));
        due.refused("evening(0): STATE ahead of FULL", new MovingHills(), Due.STATE, x -> x.evening(0));
        due.refused("season(40, 1): STATE ahead of FULL", new MovingHills(), Due.STATE, x -> x.season(40, 1));
    }

    private static void none(Due due) {
        due.is("NONE", MovingHills.NONE, -9);
        due.refused("fault() of a LAND", Due.of(LAND), -9, x -> x.fault(0));
    }

    private static void nothing(Due due) {
        MovingHills x = Due.of(LAND);
        due.found("a ROW", x, 1, y -> y.tear(3));
        due.found("a TEXT", x, 1, y -> y.fault(3));
        due.found("a kept LAND", x, 1, y -> y.on(2));
    }

    private static void beyond(Due due) {
        MovingHills x = Due.of(LAND);
        x.row(1, 2);
        due.found("at(1, 2)", x, 2, y -> y.at(1, 2));
        due.found("at(1, -1)", x, 2, y -> y.at(1, -1));
    }

    private static void unlike(Due due) {
        MovingHills x = Due.of(LAND);
        due.found("a BAND of another KIND", x, 3, y -> y.mark(0, 1));
        Due.fill(x, 0, 13, -1, 0, 0);
        due.found("a number that is none", x, 3, y -> y.far(0));
    }

    private static void nought(Due due) {
        MovingHills x = Due.of(LAND);
        x.row(0, 0);
        due.found("shared among none", x, 4, y -> y.mean(0));
        x.row(1, 4);
        due.found("what can't be", x, 4, y -> y.far(1));
    }

    private static void size(Due due) {
        MovingHills x = Due.of(LAND);
        due.found("fewer than none", x, 5, y -> y.row(0, -1));
        x.row(1, 5);
        due.found("not as many as due", x, 5, y -> y.played(1));
    }

    private static void sets(Due due) {
        MovingHills x = Due.of(LAND);
        x.frost(1 + 8);
        due.is("SPOTS: FROST on 0", x.spot(0), 1);
        due.is("SPOTS: no FROST on 1", x.spot(1), 0);
        due.is("SPOTS: no FROST on 2", x.spot(2), 0);
        due.is("SPOTS: FROST on 3", x.spot(3), 1);
        due.tells("SPOTS: BAND 2 on SPOT 2 is HEARD on 1 and 3", x, x.band(2, 3), 1, 2 + 8);
        x.frost(0);
        x.heights(0);
        due.is("TUNES: BAND 0 was silent", x.could(0, 0), 1);
        Due.fill(x, 0, 1, 2, 9, 0);
        due.is("TUNES: BAND 0 was silent, and the ECHO played, or BAND 0 a MARCH", x.could(0, 0), 1 + 2);
        Due.fill(x, 0, 0, 2, 10, 0);
        due.is("TUNES: BAND 0 was silent, and the ECHO played, or BAND 0 a LULLABY", x.could(0, 0), 1 + 4);
    }

    private static void rows(Due due) {
        MovingHills x = new MovingHills();
        for (int r = 0; r <= 5; r++) due.is("row(" + r + ", 40)", x.row(r, 40), 40);
        for (int r = 0; r <= 5; r++) due.is("lay(" + r + ", 39, ..)", x.lay(r, 39, r - 3), 1);
        for (int r = 0; r <= 5; r++) due.tells("at(" + r + ", 39)", x, x.at(r, 39), 1, r - 3);
        for (int r = 0; r <= 5; r++) due.is("row(" + r + ", 0)", x.row(r, 0), 0);
        due.is("count(6)", x.count(6), 6);
        due.bad("row(6, 0)", x, y -> y.row(6, 0));
        due.bad("row(-1, 0)", x, y -> y.row(-1, 0));
        due.bad("row(0, 41)", x, y -> y.row(0, 41));
    }

    private static void texts(Due due) {
        MovingHills x = new MovingHills();
        for (int t = 0; t <= 3; t++) due.is("text(" + t + ", 80)", x.text(t, 80), 80);
        for (int t = 0; t <= 3; t++) due.is("put(" + t + ", 79, ..)", x.put(t, 79, 65 + t), 1032);
        for (int t = 0; t <= 3; t++) due.is("put(" + t + ", 79, 0)", x.put(t, 79, 0), 1065 + t);
        for (int t = 0; t <= 3; t++) due.is("text(" + t + ", 0)", x.text(t, 0), 0);
        due.is("count(7)", x.count(7), 4);
        due.bad("text(4, 0)", x, y -> y.text(4, 0));
        due.bad("text(-1, 0)", x, y -> y.text(-1, 0));
        due.bad("text(0, 81)", x, y -> y.text(0, 81));
    }

    private static void missing(Due due) {
        MovingHills x = new MovingHills();
        for (int r = 0; r <= 5; r++) due.finds("tear(" + r + ")", x, x.tear(r), Due.NOTHING);
        for (int t = 0; t <= 3; t++) due.finds("put(" + t + ", 0, 0)", x, x.put(t, 0, 0), Due.NOTHING);
        due.is("count(6)", x.count(6), 0);
        due.is("count(7)", x.count(7), 0);
    }

    private static void plays(Due due, String land, int program, int... want) {
        MovingHills x = Due.of(land);
        x.evening(program);
        due.heights(land + " by " + program, x, want);
    }

    private static void programs(Due due) {
        String land = "g0110000110 b01 b31 p89";
        plays(due, land, 0, 0, 1, 1, 0, 0, 0, 0, 1, 1, 0);
        plays(due, land, 1, 1, 0, 1, 0, 0, 0, 0, 1, 1, 0);
        plays(due, land, 2, 0, 0, 2, 0, 0, 0, 0, 1, 1, 0);
        plays(due, land, 3, 0, 1, 0, 1, 0, 0, 0, 1, 1, 0);
        plays(due, land, 6, 0, 2, 0, 0, 0, 0, 0, 1, 1, 0);
        plays(due, "g020020020 c01 c31 c61", 26, 0, 1, 1, 0, 1, 1, 0, 1, 1);
        plays(due, "g020020020 c01 c31 c61", 13, 1, 1, 0, 1, 1, 0, 1, 1, 0);
        plays(due, "g020020020 c01 c31 c61", 9, 0, 2, 0, 0, 2, 0, 1, 1, 0);
        plays(due, "g020020020 c01 c31 c61", 18, 0, 2, 0, 0, 2, 0, 0, 1, 1);
        due.is("the last of one BAND", Due.of("g12 b01").evening(2), 0);
        due.bad("one more", Due.of("g12 b01"), x -> x.evening(3));
        due.is("the last of two", Due.of("g12 b01 b01").evening(8), 0);
        due.bad("one more", Due.of("g12 b01 b01"), x -> x.evening(9));
        due.is("the last of three", Due.of("g12 b01 b01 b01").evening(26), 0);
        due.bad("one more", Due.of("g12 b01 b01 b01"), x -> x.evening(27));
    }

    private static void byNumbers(Due due) {
        // A LULLABY from SPOT 0 brings the inch to where the other BAND on SPOT 3 is HEARD.
        MovingHills x = Due.of("g0100 b01 b31");
        due.is("BAND 0 ahead of BAND 1", x.evening(2 + 3), 2);
        due.heights("BAND 0 ahead of BAND 1", x, 0, 0, 0, 1);
        MovingHills y = Due.of("g0100 b31 b01");
        due.is("the other way round", y.evening(1 + 6), 1);
        due.heights("the other way round", y, 0, 0, 1, 0);
        MovingHills z = Due.of("g01000 b01 d13 b41");
        due.is("three of them", z.evening(2 + 6 + 9), 3);
        due.heights("three of them", z, 0, 0, 0, 0, 1);
    }

    private static void breath(Due due) {
        for (int program = 0; program < 27; program++) {
            MovingHills x = Due.of("g00 b01 e14 t09");
            int want = (program % 3 > 0 ? 1 : 0) + (program / 3 % 3 > 0 ? 4 : 0) + (program / 9 > 0 ? 9 : 0);
            x.evening(program);
            due.is("BREATH of " + program, x.asked(), want);
        }
    }

    private static void moreEvenings(Due due) {
        MovingHills x = Due.of("g020 b01");
        due.is("raise(0, 1, 3, 0)", x.raise(0, 1, 3, 0), 1);
        due.row("0 0 1 is ahead of 0 1 0 and 1 0 0", x, 0, 0, 0, 1);
        Due.fill(x, 1, 1, 0, 1);
        due.tells("1 2 is ahead of 2 1", x, x.twice(1), 2, 1002);
        MovingHills y = Due.of("g020 b01");
        due.is("flat(2, 0)", y.flat(2, 0), 2);
        due.row("1 1 is ahead of 1 2, 2 1 and 2 2", y, 0, 1, 1);
    }

    /** The numbers of these LOTS, as they are known from elsewhere. */
    private static final long[] FROM_1 = {48271, 182605794, 1291394886, 1914720637, 2078669041};

    private static MovingHills byLots(long... lots) {
        MovingHills x = Due.of("g4231504 b22 d51 p63");
        for (long lot : lots) {
            x.frost(lot / 128 % 2 == 1 ? 1 << lot / 256 % 7 : 0);
            x.evening((int) (lot % 27));
        }
        return x;
    }

    private static void lots(Due due) {
        MovingHills x = Due.of("g4231504 b22 d51 p63");
        due.holds("season(5, 1)", x.season(5, 1) >= 0);
        due.is("five numbers from the seed 1", x.digest(), byLots(FROM_1).digest());
    }

    private static void seeds(Due due) {
        MovingHills x = Due.of("g4231504 b22 d51 p63");
        due.holds("season(2, 2147483646)", x.season(2, 2147483646) >= 0);
        due.is("the largest seed", x.digest(), byLots(2147483647 - FROM_1[0], 2147483647 - FROM_1[1]).digest());
        MovingHills y = Due.of("g4231504 b22 d51 p63");
        due.holds("season(1, 182605794)", y.season(1, 182605794) >= 0);
        due.is("the seed itself is no LOT", y.digest(), byLots(FROM_1[2]).digest());
        due.bad("season(1, 0)", y, z -> z.season(1, 0));
        due.bad("season(1, -1)", y, z -> z.season(1, -1));
        due.bad("season(1, 2147483647)", y, z -> z.season(1, Due.MAX));
        due.bad("season(1, min)", y, z -> z.season(1, Due.MIN));
    }
}
