/** Promises 34 to 38, sentence by sentence: valleys, tops, borders, how far inches go. */
final class BordersSentences {
    private BordersSentences() {
    }

    static void run(Sentences s) {
        s.in("Promise 34");
        s.test("How many VALLEYS (rows of SPOTS side by side that are 0 high, as long as they go) there are;",
            BordersSentences::valleys);
        s.test("the length of the longest by asked().", BordersSentences::longest);
        s.in("Promise 35");
        s.test("The first of the highest SPOTS; how high by asked().", BordersSentences::top);
        s.test("STATE: no SPOTS.", due -> due.refused("top()", new MovingHills(), Due.STATE, MovingHills::top));
        s.in("Promise 36");
        s.test("The BORDER between two SPOTS x below y:", BordersSentences::border);
        s.test("the first of the highest SPOTS from x to y; how high by asked().", BordersSentences::borderFirst);
        s.test("BAD: also x not below y.", due -> stretchBad(due, true));
        s.in("Promise 37");
        s.test("By how many PROGRAMS of one EVENING that BORDER goes elsewhere;", BordersSentences::shifts);
        s.test("the first by asked() (NONE).", BordersSentences::shiftsFirst);
        s.test("BAD.", due -> stretchBad(due, false));
        s.in("Promise 38");
        s.test("How many inches each of which has to go how far, together, so that the HEIGHTS of a ROW "
            + "come of those now: the least.", BordersSentences::far);
        s.test("BAD; STATE: no SPOTS; NOTHING; SIZE;", BordersSentences::farRefused);
        s.test("UNLIKE: below 0;", BordersSentences::farUnlike);
        s.test("NOUGHT: not as many inches together.", BordersSentences::farNought);
        s.test("(In this order.)", BordersSentences::farOrder);
    }

    private static void valleys(Due due, String land, int many, int longest) {
        MovingHills x = Due.of(land);
        due.tells("valleys of " + land, x, x.valleys(), many, longest);
    }

    private static void valleys(Due due) {
        valleys(due, "g11", 0, 0);
        valleys(due, "g01", 1, 1);
        valleys(due, "g10", 1, 1);
        valleys(due, "g00", 1, 2);
        valleys(due, "g010", 2, 1);
        valleys(due, "g101", 1, 1);
        valleys(due, "g0101010101", 5, 1);
        valleys(due, "g1010101010", 5, 1);
        valleys(due, "g0000000000", 1, 10);
        MovingHills x = Due.of("g010 b11 b01");
        x.evening(3);
        due.tells("as they are now", x, x.valleys(), 1, 2);
    }

    private static void longest(Due due) {
        valleys(due, "g0010", 2, 2);
        valleys(due, "g0100", 2, 2);
        valleys(due, "g0010001001", 3, 3);
        valleys(due, "g9000090000", 2, 4);
        MovingHills x = Due.of("g12");
        x.spot(1);
        due.tells("none", x, x.valleys(), 0, 0);
        MovingHills none = new MovingHills();
        Due.fill(none, 0, 7);
        none.at(0, 0);
        due.tells("without SPOTS", none, none.valleys(), 0, 0);
    }

    private static void top(Due due, String land, int x, int high) {
        MovingHills hills = Due.of(land);
        due.tells("top of " + land, hills, hills.top(), x, high);
    }

    private static void top(Due due) {
        top(due, "g00", 0, 0);
        top(due, "g01", 1, 1);
        top(due, "g10", 0, 1);
        top(due, "g99", 0, 9);
        top(due, "g0000000009", 9, 9);
        top(due, "g1234554321", 4, 5);
        top(due, "g9876543219", 0, 9);
        MovingHills heap = AsideSentences.heap();
        due.tells("a heap", heap, heap.top(), 0, 90);
    }

    private static void border(Due due, String land, int x, int y, int at, int high) {
        MovingHills hills = Due.of(land);
        due.tells("border(" + x + ", " + y + ") of " + land, hills, hills.border(x, y), at, high);
    }

    private static void border(Due due) {
        border(due, "g9129", 1, 2, 2, 2);
        border(due, "g9219", 1, 2, 1, 2);
        border(due, "g9129", 0, 2, 0, 9);
        border(due, "g9129", 1, 3, 3, 9);
        border(due, "g1234567899", 0, 9, 8, 9);
        border(due, "g12", 0, 1, 1, 2);
    }

    private static void borderFirst(Due due) {
        border(due, "g00", 0, 1, 0, 0);
        border(due, "g3535", 0, 3, 1, 5);
        border(due, "g3535", 2, 3, 3, 5);
        border(due, "g5353", 1, 3, 2, 5);
        border(due, "g4444", 1, 3, 1, 4);
        MovingHills none = Due.of("g500");
        none.spot(0);
        due.tells("0 high", none, none.border(1, 2), 1, 0);
    }

    private static int ask(MovingHills hills, boolean border, int x, int y) {
        return border ? hills.border(x, y) : hills.shifts(x, y);
    }

    private static void stretchBad(Due due, boolean border) {
        MovingHills hills = Due.of("g1234 b01");
        due.holds("0 and 1", ask(hills, border, 0, 1) >= 0);
        due.holds("2 and 3", ask(hills, border, 2, 3) >= 0);
        int[][] bad = {{0, 0}, {3, 3}, {1, 0}, {3, 2}, {-1, 0}, {-1, 3}, {0, 4}, {3, 4}, {4, 5}, {-2, -1},
            {Due.MIN, Due.MAX}, {0, Due.MAX}, {Due.MIN, 3}, {Due.MAX, Due.MIN}};
        for (int[] xy : bad) due.bad(xy[0] + " and " + xy[1], hills, h -> ask(h, border, xy[0], xy[1]));
        due.bad("without SPOTS", new MovingHills(), h -> ask(h, border, 0, 1));
    }

    private static void shifts(Due due, String land, int x, int y, int many, int first) {
        MovingHills hills = Due.of(land);
        due.tells("shifts(" + x + ", " + y + ") of " + land, hills, hills.shifts(x, y), many, first);
        due.is("it is aside", hills.count(2), 0);
    }

    private static void shifts(Due due) {
        // By a MARCH 1 1, by a LULLABY the last SPOT stays.
        shifts(due, "g02 b01", 0, 1, 1, 1);
        shifts(due, "g03 b01", 0, 1, 0, Due.NONE);
        shifts(due, "g03 d01", 0, 1, 1, 1);
        // By a MARCH 1 1 0, by a LULLABY 0 1 1.
        shifts(due, "g020 b01", 0, 2, 1, 1);
        shifts(due, "g020 b01", 0, 1, 1, 1);
        shifts(due, "g020 b01", 1, 2, 0, Due.NONE);
        shifts(due, "g020 d01", 1, 2, 1, 2);
        // The DRUM's inches come to a SPOT beyond y.
        shifts(due, "g220 d01", 0, 1, 0, Due.NONE);
    }

    private static void shiftsFirst(Due due) {
        shifts(due, "g12", 0, 1, 0, Due.NONE);
        shifts(due, "g00 b01", 0, 1, 0, Due.NONE);
        shifts(due, "g11 b11", 0, 1, 1, 1);
        shifts(due, "g010 b01 b01", 0, 2, 8, 1);
        shifts(due, "g0010 b01 d11", 0, 3, 6, 3);
    }

    private static void far(Due due, String land, int want, int... heights) {
        MovingHills x = Due.of(land);
        Due.fill(x, 5, heights);
        x.spot(0);
        int asked = x.asked();
        String what = "far of " + land + " to " + java.util.Arrays.toString(heights);
        due.tells(what, x, x.far(5), want, asked);
        due.row("the ROW stays", x, 5, heights);
    }

    private static void far(Due due) {
        far(due, "g12", 0, 1, 2);
        far(due, "g00", 0, 0, 0);
        far(due, "g12", 1, 2, 1);
        far(due, "g12", 1, 0, 3);
        far(due, "g100", 2, 0, 0, 1);
        far(due, "g001", 2, 1, 0, 0);
        far(due, "g101", 2, 0, 2, 0);
        far(due, "g020", 2, 1, 0, 1);
        far(due, "g9000000000", 81, 0, 0, 0, 0, 0, 0, 0, 0, 0, 9);
        far(due, "g0000000009", 81, 9, 0, 0, 0, 0, 0, 0, 0, 0, 0);
        far(due, "g2020", 2, 1, 1, 1, 1);
        far(due, "g1111", 2, 2, 0, 0, 2);
        far(due, "g1111", 6, 4, 0, 0, 0);
        MovingHills heap = AsideSentences.heap();
        Due.fill(heap, 0, 0, 0, 0, 0, 0, 0, 0, 0, 0, 90);
        due.is("a heap, all the way", heap.far(0), 810);
    }

    private static void farRefused(Due due) {
        MovingHills x = Due.of("g123 b01");
        due.bad("ROW 6", x, y -> y.far(6));
        due.bad("ROW -1", x, y -> y.far(-1));
        due.bad("the most", x, y -> y.far(Due.MAX));
        due.bad("the least", x, y -> y.far(Due.MIN));
        due.found("a ROW that is missing", x, Due.NOTHING, y -> y.far(5));
        Due.fill(x, 5, 3, 3);
        due.found("one too few", x, Due.SIZE, y -> y.far(5));
        Due.fill(x, 5, 1, 2, 3, 0);
        due.found("one too many", x, Due.SIZE, y -> y.far(5));
        x.row(5, 0);
        due.found("none", x, Due.SIZE, y -> y.far(5));
        MovingHills none = new MovingHills();
        none.row(0, 0);
        due.refused("without SPOTS", none, Due.STATE, y -> y.far(0));
    }

    private static void farUnlike(Due due) {
        int[][] below = {{-1, 0, 7}, {0, -1, 7}, {7, 0, -1}, {Due.MIN, 0, 0}, {6, 1, -1}};
        MovingHills x = Due.of("g123 b01");
        for (int[] heights : below) {
            Due.fill(x, 0, heights);
            due.found(java.util.Arrays.toString(heights), x, Due.UNLIKE, y -> y.far(0));
        }
        Due.fill(x, 0, 0, 0, 6);
        due.is("0 is none below 0", x.far(0), 4);
    }

    private static void farNought(Due due) {
        int[][] other = {{1, 2, 2}, {1, 2, 4}, {0, 0, 0}, {0, 0, 5}, {7, 0, 0}, {Due.MAX, 0, 0},
            {Due.MAX, Due.MAX, 8}, {Due.MAX, Due.MAX, Due.MAX}};
        MovingHills x = Due.of("g123 b01");
        for (int[] heights : other) {
            Due.fill(x, 0, heights);
            due.found(java.util.Arrays.toString(heights), x, Due.NOUGHT, y -> y.far(0));
        }
    }

    private static void farOrder(Due due) {
        MovingHills none = new MovingHills();
        due.bad("BAD ahead of STATE", none, y -> y.far(6));
        due.refused("STATE ahead of NOTHING", none, Due.STATE, y -> y.far(0));
        Due.fill(none, 0, -1);
        due.refused("STATE ahead of SIZE, UNLIKE, NOUGHT", none, Due.STATE, y -> y.far(0));
        MovingHills x = Due.of("g123 b01");
        Due.fill(x, 0, -1, 7);
        due.found("SIZE ahead of UNLIKE", x, Due.SIZE, y -> y.far(0));
        Due.fill(x, 0, 9, 9);
        due.found("SIZE ahead of NOUGHT", x, Due.SIZE, y -> y.far(0));
        Due.fill(x, 0, 9, 9, -1);
        due.found("UNLIKE ahead of NOUGHT", x, Due.UNLIKE, y -> y.far(0));
    }
}
