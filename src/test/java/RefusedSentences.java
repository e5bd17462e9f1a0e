import java.util.ArrayList;
import java.util.List;
import java.util.function.Supplier;
import java.util.function.ToIntFunction;

/** Every call that can be refused, in every way: behind it the object is as one that was not asked. */
final class RefusedSentences {
    private static final int BAD = Due.BAD, FULL = Due.FULL, STATE = Due.STATE, NONE = Due.NONE;
    private static final int NOTHING = 100 + Due.NOTHING, BEYOND = 100 + Due.BEYOND, UNLIKE = 100 + Due.UNLIKE;
    private static final int NOUGHT = 100 + Due.NOUGHT, SIZE = 100 + Due.SIZE;

    private record Refused(String name, int how, ToIntFunction<MovingHills> call) {
    }

    private RefusedSentences() {
    }

    static void changesNothing(Due due) {
        for (Refused one : ofRows()) changesNothing(due, RefusedSentences::settled, one);
        for (Refused one : ofLands()) changesNothing(due, RefusedSentences::settled, one);
        for (Refused one : ofEvenings()) changesNothing(due, RefusedSentences::settled, one);
        for (Refused one : ofPlans()) changesNothing(due, RefusedSentences::settled, one);
        for (Refused one : ofFullOnes()) changesNothing(due, RefusedSentences::full, one);
        for (Refused one : withoutSpots()) changesNothing(due, RefusedSentences::empty, one);
    }

    private static void changesNothing(Due due, Supplier<MovingHills> made, Refused one) {
        MovingHills x = made.get();
        MovingHills same = made.get();
        int finding = one.how > 100 ? one.how - 100 : 0;
        due.is(one.name, one.call.applyAsInt(x), finding > 0 ? Due.FINDING : one.how);
        due.is(one.name + ", finding()", x.finding(), finding > 0 ? finding : same.finding());
        for (int f = 1; f <= 5; f++) {
            due.is(one.name + ", findings(" + f + ")", x.findings(f), same.findings(f) + (f == finding ? 1 : 0));
        }
        List<Long> got = deepState(x);
        List<Long> want = deepState(same);
        for (int i = 0; i < want.size(); i++) due.is(one.name + ", then probe " + i, got.get(i), want.get(i));
    }

    /** With what digest() does not tell: what is kept, and what undoing brings back. */
    private static List<Long> deepState(MovingHills x) {
        List<Long> all = new ArrayList<>();
        all.add((long) x.asked());
        all.add(x.digest());
        x.undo(Math.max(0, x.count(2) - 1));
        all.add(x.digest());
        x.undo(0);
        all.add(x.digest());
        for (int k = 2; k >= 0; k--) {
            all.add((long) x.on(k));
            all.add(x.digest());
            x.undo(0);
            all.add(x.digest());
        }
        return all;
    }

    /** ROW 0 fits, 1 is empty, 2 has too few places, 3 one below 0, 4 too many inches, 5 is missing; so is TEXT 3. */
    private static MovingHills settled() {
        MovingHills x = Due.of("g0390 b01 d33 e21");
        Due.write(x, 1, "g12 b");
        x.text(2, 0);
        Due.fill(x, 0, 0, 9, 3, 0);
        x.row(1, 0);
        Due.fill(x, 2, 4, 5, 3);
        Due.fill(x, 3, 14, 0, -2, 0);
        Due.fill(x, 4, 0, 9, 3, 1);
        x.evening(5);
        x.frost(4);
        x.keep(0);
        x.evening(10);
        x.move(1, 1);
        x.evening(3);
        x.keep(2);
        x.frost(9);
        x.evening(1);
        x.tear(5);
        return x;
    }

    private static MovingHills full() {
        MovingHills x = Due.of("g0390 b01 d33 e21");
        for (int e = 0; e < 59; e++) x.evening(e % 27);
        x.keep(1);
        x.evening(4);
        x.frost(2);
        return x;
    }

    private static MovingHills empty() {
        MovingHills x = new MovingHills();
        Due.fill(x, 0, 3, 4);
        x.tear(1);
        return x;
    }

    private static Refused refused(String name, int how, ToIntFunction<MovingHills> call) {
        return new Refused(name, how, call);
    }

    private static List<Refused> ofRows() {
        return List.of(
            refused("row(-1, 1)", BAD, x -> x.row(-1, 1)), refused("row(6, 1)", BAD, x -> x.row(6, 1)),
            refused("row(0, 41)", BAD, x -> x.row(0, 41)), refused("row(0, -1)", SIZE, x -> x.row(0, -1)),
            refused("row(5, -1)", SIZE, x -> x.row(5, -1)),
            refused("lay(-1, 0, 7)", BAD, x -> x.lay(-1, 0, 7)), refused("lay(6, 0, 7)", BAD, x -> x.lay(6, 0, 7)),
            refused("lay(5, 0, 7)", NOTHING, x -> x.lay(5, 0, 7)), refused("lay(0, 4, 7)", BEYOND, x -> x.lay(0, 4, 7)),
            refused("lay(0, -1, 7)", BEYOND, x -> x.lay(0, -1, 7)), refused("lay(1, 0, 7)", BEYOND, x -> x.lay(1, 0, 7)),
            refused("at(-1, 0)", BAD, x -> x.at(-1, 0)), refused("at(6, 0)", BAD, x -> x.at(6, 0)),
            refused("at(5, 0)", NOTHING, x -> x.at(5, 0)), refused("at(0, 4)", BEYOND, x -> x.at(0, 4)),
            refused("at(0, -1)", BEYOND, x -> x.at(0, -1)),
            refused("tear(-1)", BAD, x -> x.tear(-1)), refused("tear(6)", BAD, x -> x.tear(6)),
            refused("tear(5)", NOTHING, x -> x.tear(5)),
            refused("copy(6, 0, 0, 0, 1)", BAD, x -> x.copy(6, 0, 0, 0, 1)),
            refused("copy(0, 0, -1, 0, 1)", BAD, x -> x.copy(0, 0, -1, 0, 1)),
            refused("copy(0, 0, 2, 0, -1)", SIZE, x -> x.copy(0, 0, 2, 0, -1)),
            refused("copy(5, 0, 2, 0, 1)", NOTHING, x -> x.copy(5, 0, 2, 0, 1)),
            refused("copy(0, 0, 5, 0, 1)", NOTHING, x -> x.copy(0, 0, 5, 0, 1)),
            refused("copy(0, 0, 2, 0, 4)", BEYOND, x -> x.copy(0, 0, 2, 0, 4)),
            refused("copy(2, 0, 0, 0, 4)", BEYOND, x -> x.copy(2, 0, 0, 0, 4)),
            refused("mean(6)", BAD, x -> x.mean(6)), refused("mean(5)", NOTHING, x -> x.mean(5)),
            refused("mean(1)", NOUGHT, x -> x.mean(1)),
            refused("text(-1, 1)", BAD, x -> x.text(-1, 1)), refused("text(4, 1)", BAD, x -> x.text(4, 1)),
            refused("text(0, 81)", BAD, x -> x.text(0, 81)), refused("text(0, -1)", SIZE, x -> x.text(0, -1)),
            refused("text(3, -1)", SIZE, x -> x.text(3, -1)),
            refused("put(-1, 0, 7)", BAD, x -> x.put(-1, 0, 7)), refused("put(4, 0, 7)", BAD, x -> x.put(4, 0, 7)),
            refused("put(3, 0, 7)", NOTHING, x -> x.put(3, 0, 7)), refused("put(1, 5, 7)", BEYOND, x -> x.put(1, 5, 7)),
            refused("put(1, -1, 7)", BEYOND, x -> x.put(1, -1, 7)), refused("put(2, 0, 7)", BEYOND, x -> x.put(2, 0, 7)));
    }

    private static List<Refused> ofLands() {
        return List.of(
            refused("fault(-1)", BAD, x -> x.fault(-1)), refused("fault(4)", BAD, x -> x.fault(4)),
            refused("fault(3)", NOTHING, x -> x.fault(3)), refused("fault(0)", NONE, x -> x.fault(0)),
            refused("a FAULT is no refusal", 5, x -> x.fault(1)),
            refused("land(-1)", BAD, x -> x.land(-1)), refused("land(4)", BAD, x -> x.land(4)),
            refused("land(3)", NOTHING, x -> x.land(3)), refused("land(1)", STATE, x -> x.land(1)),
            refused("land(2)", STATE, x -> x.land(2)),
            refused("spot(-1)", BAD, x -> x.spot(-1)), refused("spot(4)", BAD, x -> x.spot(4)),
            refused("band(-1, 0)", BAD, x -> x.band(-1, 0)), refused("band(3, 0)", BAD, x -> x.band(3, 0)),
            refused("band(0, -1)", BAD, x -> x.band(0, -1)), refused("band(0, 5)", BAD, x -> x.band(0, 5)),
            refused("mark(-1, 1)", BAD, x -> x.mark(-1, 1)), refused("mark(3, 1)", BAD, x -> x.mark(3, 1)),
            refused("mark(0, 0)", BAD, x -> x.mark(0, 0)), refused("mark(0, 6)", BAD, x -> x.mark(0, 6)),
            refused("mark(0, 1)", UNLIKE, x -> x.mark(0, 1)), refused("mark(1, 4)", UNLIKE, x -> x.mark(1, 4)),
            refused("frost(-1)", BAD, x -> x.frost(-1)), refused("frost(16)", BAD, x -> x.frost(16)),
            refused("move(-1, 0)", BAD, x -> x.move(-1, 0)), refused("move(3, 0)", BAD, x -> x.move(3, 0)),
            refused("move(0, -1)", BAD, x -> x.move(0, -1)), refused("move(0, 4)", BAD, x -> x.move(0, 4)));
    }

    private static List<Refused> ofEvenings() {
        return List.of(
            refused("evening(-1)", BAD, x -> x.evening(-1)), refused("evening(27)", BAD, x -> x.evening(27)),
            refused("undo(-1)", BAD, x -> x.undo(-1)), refused("undo(5)", BAD, x -> x.undo(5)),
            refused("undo(4) undoes none", 0, x -> x.undo(4)),
            refused("heights(-1)", BAD, x -> x.heights(-1)), refused("heights(6)", BAD, x -> x.heights(6)),
            refused("keep(-1)", BAD, x -> x.keep(-1)), refused("keep(3)", BAD, x -> x.keep(3)),
            refused("on(-1)", BAD, x -> x.on(-1)), refused("on(3)", BAD, x -> x.on(3)),
            refused("on(1)", NOTHING, x -> x.on(1)),
            refused("behind(27, 1, 0)", BAD, x -> x.behind(27, 1, 0)),
            refused("behind(1, 61, 0)", BAD, x -> x.behind(1, 61, 0)),
            refused("behind(1, 1, 4)", BAD, x -> x.behind(1, 1, 4)),
            refused("rest(27)", BAD, x -> x.rest(27)), refused("round(27)", BAD, x -> x.round(27)),
            refused("round(14)", NONE, x -> x.round(14)),
            refused("highest(4)", BAD, x -> x.highest(4)), refused("lowest(-1)", BAD, x -> x.lowest(-1)),
            refused("season(0, 1)", BAD, x -> x.season(0, 1)), refused("season(41, 1)", BAD, x -> x.season(41, 1)),
            refused("season(1, 0)", BAD, x -> x.season(1, 0)),
            refused("season(1, max)", BAD, x -> x.season(1, Due.MAX)));
    }

    private static List<Refused> ofPlans() {
        return List.of(
            refused("flat(16, 0)", BAD, x -> x.flat(16, 0)), refused("flat(-1, 0)", BAD, x -> x.flat(-1, 0)),
            refused("flat(1, 6)", BAD, x -> x.flat(1, 6)), refused("flat(15, 0)", NONE, x -> x.flat(15, 0)),
            refused("flat(15, 5)", NONE, x -> x.flat(15, 5)),
            refused("raise(4, 0, 0, 0)", BAD, x -> x.raise(4, 0, 0, 0)),
            refused("raise(0, 100, 0, 0)", BAD, x -> x.raise(0, 100, 0, 0)),
            refused("raise(0, 0, 4, 0)", BAD, x -> x.raise(0, 0, 4, 0)),
            refused("raise(0, 0, 0, 6)", BAD, x -> x.raise(0, 0, 0, 6)),
            refused("raise(0, 99, 3, 0)", NONE, x -> x.raise(0, 99, 3, 0)),
            refused("raise(0, 99, 3, 5)", NONE, x -> x.raise(0, 99, 3, 5)),
            refused("keeps(4)", BAD, x -> x.keeps(4)),
            refused("rivals(0, 0, 0, 1)", BAD, x -> x.rivals(0, 0, 0, 1)),
            refused("rivals(0, 1, 0, 7)", BAD, x -> x.rivals(0, 1, 0, 7)),
            refused("rivals(0, 1, 4, 1)", BAD, x -> x.rivals(0, 1, 4, 1)),
            refused("rivals(3, 1, 0, 1)", BAD, x -> x.rivals(3, 1, 0, 1)),
            refused("played(6)", BAD, x -> x.played(6)), refused("played(5)", NOTHING, x -> x.played(5)),
            refused("played(2)", SIZE, x -> x.played(2)),
            refused("could(3, 0)", BAD, x -> x.could(3, 0)), refused("could(0, 6)", BAD, x -> x.could(0, 6)),
            refused("could(0, 5)", NOTHING, x -> x.could(0, 5)), refused("could(0, 1)", SIZE, x -> x.could(0, 1)),
            refused("twice(6)", BAD, x -> x.twice(6)), refused("twice(5)", NOTHING, x -> x.twice(5)),
            refused("twice(1)", SIZE, x -> x.twice(1)),
            refused("border(1, 1)", BAD, x -> x.border(1, 1)), refused("border(0, 4)", BAD, x -> x.border(0, 4)),
            refused("shifts(1, 1)", BAD, x -> x.shifts(1, 1)), refused("shifts(-1, 1)", BAD, x -> x.shifts(-1, 1)),
            refused("far(6)", BAD, x -> x.far(6)), refused("far(5)", NOTHING, x -> x.far(5)),
            refused("far(2)", SIZE, x -> x.far(2)), refused("far(3)", UNLIKE, x -> x.far(3)),
            refused("far(4)", NOUGHT, x -> x.far(4)),
            refused("count(9)", BAD, x -> x.count(9)), refused("count(-1)", BAD, x -> x.count(-1)),
            refused("findings(0)", BAD, x -> x.findings(0)), refused("findings(6)", BAD, x -> x.findings(6)));
    }

    private static List<Refused> ofFullOnes() {
        return List.of(
            refused("evening(0) of 60", FULL, x -> x.evening(0)),
            refused("evening(26) of 60", FULL, x -> x.evening(26)),
            refused("season(1, 1) of 60", FULL, x -> x.season(1, 1)),
            refused("season(40, 1) of 60", FULL, x -> x.season(40, 1)),
            refused("evening(27) of 60", BAD, x -> x.evening(27)),
            refused("undo(61) of 60", BAD, x -> x.undo(61)));
    }

    private static List<Refused> withoutSpots() {
        return List.of(
            refused("evening(0) without SPOTS", STATE, x -> x.evening(0)),
            refused("evening(1) without SPOTS", BAD, x -> x.evening(1)),
            refused("keep(0) without SPOTS", STATE, x -> x.keep(0)),
            refused("on(0) without SPOTS", NOTHING, x -> x.on(0)),
            refused("undo(1) without SPOTS", BAD, x -> x.undo(1)),
            refused("frost(1) without SPOTS", BAD, x -> x.frost(1)),
            refused("behind(0, 0, 0) without SPOTS", BAD, x -> x.behind(0, 0, 0)),
            refused("highest(0) without SPOTS", BAD, x -> x.highest(0)),
            refused("lowest(0) without SPOTS", BAD, x -> x.lowest(0)),
            refused("flat(0, 0) without SPOTS", STATE, x -> x.flat(0, 0)),
            refused("raise(0, 0, 0, 0) without SPOTS", BAD, x -> x.raise(0, 0, 0, 0)),
            refused("keeps(0) without SPOTS", BAD, x -> x.keeps(0)),
            refused("rivals(0, 1, 0, 0) without SPOTS", BAD, x -> x.rivals(0, 1, 0, 0)),
            refused("played(0) without SPOTS", STATE, x -> x.played(0)),
            refused("could(0, 0) without SPOTS", BAD, x -> x.could(0, 0)),
            refused("twice(0) without SPOTS", STATE, x -> x.twice(0)),
            refused("top() without SPOTS", STATE, MovingHills::top),
            refused("border(0, 1) without SPOTS", BAD, x -> x.border(0, 1)),
            refused("shifts(0, 1) without SPOTS", BAD, x -> x.shifts(0, 1)),
            refused("far(0) without SPOTS", STATE, x -> x.far(0)),
            refused("season(1, 1) without SPOTS", STATE, x -> x.season(1, 1)));
    }
}
