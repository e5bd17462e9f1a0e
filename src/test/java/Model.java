import java.util.ArrayList;
import java.util.Arrays;
import java.util.Collections;
import java.util.Comparator;
import java.util.List;
import java.util.regex.Matcher;
import java.util.regex.Pattern;

/**
 * The document written a second time, as plainly as can be and without any care for
 * speed, on Java's library: what ModelTest compares the class with.
 */
final class Model {
    static final int BAD = -1, FULL = -2, FINDING = -3, STATE = -4, NONE = -9;

    /** A refusal on its way out of a call. */
    private static final class Refused extends RuntimeException {
        private static final long serialVersionUID = 1L;
        final int answer;

        Refused(int answer) {
            super(null, null, false, false);
            this.answer = answer;
        }
    }

    private static class Band {
        int spot;
        final int loudness;
        int moved = 0;

        Band(int spot, int loudness) {
            this.spot = spot;
            this.loudness = loudness;
        }

        int kind() {
            return 0;
        }

        int hearing() {
            return loudness;
        }

        boolean marches(int tune) {
            return tune == 1;
        }

        int inches(int x, int high) {
            return high > 0 ? 1 : 0;
        }
    }

    private static class Drum extends Band {
        Drum(int spot, int loudness) {
            super(spot, loudness);
        }

        @Override int kind() {
            return 1;
        }

        @Override int inches(int x, int high) {
            return Math.min(2, high);
        }
    }

    private static class Pipe extends Band {
        Pipe(int spot, int loudness) {
            super(spot, loudness);
        }

        @Override int kind() {
            return 2;
        }

        @Override int inches(int x, int high) {
            return high >= 2 ? 1 : 0;
        }
    }

    private static final class Choir extends Band {
        Choir(int spot, int loudness) {
            super(spot, loudness);
        }

        @Override int kind() {
            return 3;
        }

        @Override int inches(int x, int high) {
            return x > spot ? super.inches(x, high) : 0;
        }
    }

    private static final class BigDrum extends Drum {
        BigDrum(int spot, int loudness) {
            super(spot, loudness);
        }

        @Override int kind() {
            return 4;
        }

        @Override int hearing() {
            return 2 * loudness;
        }
    }

    private static final class Echo extends Pipe {
        Echo(int spot, int loudness) {
            super(spot, loudness);
        }

        @Override int kind() {
            return 5;
        }

        @Override boolean marches(int tune) {
            return !super.marches(tune);
        }
    }

    private static Band bandOf(char letter, int spot, int loudness) {
        switch (letter) {
            case 'b': return new Band(spot, loudness);
            case 'd': return new Drum(spot, loudness);
            case 'p': return new Pipe(spot, loudness);
            case 'c': return new Choir(spot, loudness);
            case 't': return new BigDrum(spot, loudness);
            default: return new Echo(spot, loudness);
        }
    }

    /** What was ahead of an EVENING, and its PROGRAM. */
    private record Evening(int program, List<Integer> heights, List<Integer> moved) {
    }

    private record Kept(List<Integer> heights, List<Boolean> frost, List<Integer> spots,
                        List<Integer> moved, List<Evening> evenings) {
    }

    private final int[][] rows = new int[6][];
    private final byte[][] texts = new byte[4][];
    private List<Integer> heights = new ArrayList<>();
    private List<Boolean> frost = new ArrayList<>();
    private List<Band> bands = new ArrayList<>();
    private List<Evening> evenings = new ArrayList<>();
    private final Kept[] kept = new Kept[3];
    private int asked = 0;
    private int finding = 0;
    private final int[] findings = new int[6];

    // ---- refusing

    private static void bad(boolean so) {
        if (so) throw new Refused(BAD);
    }

    private static void refuse(boolean so, int answer) {
        if (so) throw new Refused(answer);
    }

    private void find(boolean so, int f) {
        if (!so) return;
        finding = f;
        findings[f]++;
        throw new Refused(FINDING);
    }

    private interface Call {
        int run();
    }

    private static int answer(Call call) {
        try {
            return call.run();
        } catch (Refused r) {
            return r.answer;
        }
    }

    private static boolean in(int v, int low, int high) {
        return low <= v && v <= high;
    }

    private boolean isSpot(int x) {
        return in(x, 0, heights.size() - 1);
    }

    private boolean isBand(int i) {
        return in(i, 0, bands.size() - 1);
    }

    private int programs() {
        return (int) Math.round(Math.pow(3, bands.size()));
    }

    private boolean isProgram(int p) {
        return in(p, 0, programs() - 1);
    }

    private boolean isSet(int set) {
        for (int bit = 0; bit < 32; bit++) {
            if ((set >>> bit & 1) == 1 && !isSpot(bit)) return false;
        }
        return true;
    }

    // ---- 1

    int row(int r, int n) {
        return answer(() -> {
            bad(!in(r, 0, 5) || n > 40);
            find(n < 0, 5);
            rows[r] = new int[n];
            return n;
        });
    }

    private void place(boolean there, int size, int i) {
        find(!there, 1);
        find(!in(i, 0, size - 1), 2);
    }

    int lay(int r, int i, int v) {
        return answer(() -> {
            bad(!in(r, 0, 5));
            place(rows[r] != null, rows[r] == null ? 0 : rows[r].length, i);
            asked = rows[r][i];
            rows[r][i] = v;
            return 1;
        });
    }

    int at(int r, int i) {
        return answer(() -> {
            bad(!in(r, 0, 5));
            place(rows[r] != null, rows[r] == null ? 0 : rows[r].length, i);
            asked = rows[r][i];
            return 1;
        });
    }

    int tear(int r) {
        return answer(() -> {
            bad(!in(r, 0, 5));
            find(rows[r] == null, 1);
            rows[r] = null;
            return 1;
        });
    }

    int copy(int r, int i, int to, int j, int n) {
        return answer(() -> {
            bad(!in(r, 0, 5) || !in(to, 0, 5));
            find(n < 0, 5);
            find(rows[r] == null || rows[to] == null, 1);
            find(i < 0 || j < 0 || (long) i + n > rows[r].length || (long) j + n > rows[to].length, 2);
            int[] taken = Arrays.copyOfRange(rows[r], i, i + n);
            for (int k = 0; k < n; k++) rows[to][j + k] = taken[k];
            return 1;
        });
    }

    int mean(int r) {
        return answer(() -> {
            bad(!in(r, 0, 5));
            find(rows[r] == null, 1);
            find(rows[r].length == 0, 4);
            asked = (int) (Arrays.stream(rows[r]).asLongStream().sum() / rows[r].length);
            return 1;
        });
    }

    int text(int t, int n) {
        return answer(() -> {
            bad(!in(t, 0, 3) || n > 80);
            find(n < 0, 5);
            texts[t] = " ".repeat(n).getBytes();
            return n;
        });
    }

    int put(int t, int i, int v) {
        return answer(() -> {
            bad(!in(t, 0, 3));
            place(texts[t] != null, texts[t] == null ? 0 : texts[t].length, i);
            int was = texts[t][i] + 1000;
            texts[t][i] = (byte) v;
            return was;
        });
    }

    /** One for each number of SPOTS, since a BAND's SPOT has to be one of them. */
    private static final List<Pattern> LANDS = lands();

    private static List<Pattern> lands() {
        List<Pattern> all = new ArrayList<>();
        for (int n = 2; n <= 10; n++) {
            all.add(Pattern.compile(" *g[0-9]{" + n + "}( *[bdpcte][0-" + (n - 1) + "][1-9]){0,3} *"));
        }
        return all;
    }

    private static boolean canGoOn(String text) {
        for (Pattern land : LANDS) {
            Matcher m = land.matcher(text);
            if (m.matches() || m.hitEnd()) return true;
        }
        return false;
    }

    private static boolean isLand(String text) {
        return LANDS.stream().anyMatch(land -> land.matcher(text).matches());
    }

    private static String charsOf(byte[] text) {
        StringBuilder s = new StringBuilder();
        for (byte b : text) s.append((char) (b & 255));
        return s.toString();
    }

    private static int faultOf(String text) {
        if (isLand(text)) return NONE;
        for (int i = 0; i < text.length(); i++) {
            if (!canGoOn(text.substring(0, i + 1))) return i;
        }
        return text.length();
    }

    int fault(int t) {
        return answer(() -> {
            bad(!in(t, 0, 3));
            find(texts[t] == null, 1);
            return faultOf(charsOf(texts[t]));
        });
    }

    int land(int t) {
        return answer(() -> {
            bad(!in(t, 0, 3));
            find(texts[t] == null, 1);
            String text = charsOf(texts[t]);
            refuse(!isLand(text), STATE);
            heights = new ArrayList<>();
            frost = new ArrayList<>();
            bands = new ArrayList<>();
            evenings = new ArrayList<>();
            Arrays.fill(kept, null);
            Matcher ground = Pattern.compile("g([0-9]+)").matcher(text);
            ground.find();
            for (char c : ground.group(1).toCharArray()) {
                heights.add(c - '0');
                frost.add(false);
            }
            Matcher band = Pattern.compile("([bdpcte])([0-9])([0-9])").matcher(text);
            while (band.find()) {
                bands.add(bandOf(band.group(1).charAt(0), Integer.parseInt(band.group(2)), Integer.parseInt(band.group(3))));
            }
            return heights.size();
        });
    }

    int spot(int x) {
        return answer(() -> {
            bad(!isSpot(x));
            asked = heights.get(x);
            return frost.get(x) ? 1 : 0;
        });
    }

    private List<Integer> heardBy(Band band) {
        List<Integer> spots = new ArrayList<>();
        for (int x = 0; x < heights.size(); x++) {
            if (x != band.spot && Math.abs(x - band.spot) <= band.hearing()) spots.add(x);
        }
        return spots;
    }

    private int told(Band band, int what) {
        switch (what) {
            case 0: return band.kind();
            case 1: return band.spot;
            case 2: return band.loudness;
            case 3: return heardBy(band).stream().mapToInt(x -> 1 << x).sum();
            default: return band.moved;
        }
    }

    int band(int i, int what) {
        return answer(() -> {
            bad(!isBand(i) || !in(what, 0, 4));
            asked = told(bands.get(i), what);
            return 1;
        });
    }

    private static boolean isOf(Band band, int kind) {
        switch (kind) {
            case 1: return band instanceof Drum;
            case 2: return band instanceof Pipe;
            case 3: return band instanceof Choir;
            case 4: return band instanceof BigDrum;
            default: return band instanceof Echo;
        }
    }

    int mark(int i, int kind) {
        return answer(() -> {
            bad(!isBand(i) || !in(kind, 1, 5));
            Band band = bands.get(i);
            find(!isOf(band, kind), 3);
            switch (kind) {
                case 1: return tune(new ArrayList<>(heights), band, 1);
                case 2: return (int) heardBy(band).stream().filter(x -> heights.get(x) < 2).count();
                case 3: return heights.size() - band.spot - 1;
                case 4: return band.hearing() - band.loudness;
                default: return tune(new ArrayList<>(heights), band, 2);
            }
        });
    }

    private int frostSet() {
        int set = 0;
        for (int x = 0; x < frost.size(); x++) {
            if (frost.get(x)) set += 1 << x;
        }
        return set;
    }

    int frost(int set) {
        return answer(() -> {
            bad(!isSet(set));
            int was = frostSet();
            for (int x = 0; x < frost.size(); x++) frost.set(x, (set >> x & 1) == 1);
            return was;
        });
    }

    int move(int i, int x) {
        return answer(() -> {
            bad(!isBand(i) || !isSpot(x));
            int was = bands.get(i).spot;
            bands.get(i).spot = x;
            return was;
        });
    }

    // ---- playing on some ground

    private int tune(List<Integer> ground, Band band, int tune) {
        if (tune == 0) return 0;
        boolean nearer = band.marches(tune);
        List<Integer> order = heardBy(band);
        Comparator<Integer> near = Comparator.comparing(x -> Math.abs(x - band.spot));
        order.sort((nearer ? near : near.reversed()).thenComparing(Comparator.naturalOrder()));
        int all = 0;
        for (int x : order) {
            int to = x + (x < band.spot == nearer ? 1 : -1);
            if (!isSpot(to) || frost.get(x)) continue;
            int inches = band.inches(x, ground.get(x));
            ground.set(x, ground.get(x) - inches);
            ground.set(to, ground.get(to) + inches);
            all += inches;
        }
        return all;
    }

    private int tuneOf(int program, int i) {
        String figures = Integer.toString(program, 3);
        return i < figures.length() ? figures.charAt(figures.length() - 1 - i) - '0' : 0;
    }

    private int play(List<Integer> ground, int program) {
        int all = 0;
        for (int i = 0; i < bands.size(); i++) all += tune(ground, bands.get(i), tuneOf(program, i));
        return all;
    }

    private List<Integer> behindAll(int... program) {
        List<Integer> ground = new ArrayList<>(heights);
        for (int p : program) play(ground, p);
        return ground;
    }

    private int breath(int... program) {
        int breath = 0;
        for (int p : program) {
            for (int i = 0; i < bands.size(); i++) breath += tuneOf(p, i) == 0 ? 0 : bands.get(i).loudness;
        }
        return breath;
    }

    // ---- 2

    private List<Integer> movedNow() {
        List<Integer> moved = new ArrayList<>();
        for (Band band : bands) moved.add(band.moved);
        return moved;
    }

    private int playTruly(int program) {
        evenings.add(new Evening(program, List.copyOf(heights), movedNow()));
        int all = 0;
        for (int i = 0; i < bands.size(); i++) {
            int inches = tune(heights, bands.get(i), tuneOf(program, i));
            bands.get(i).moved += inches;
            all += inches;
        }
        return all;
    }

    int evening(int program) {
        return answer(() -> {
            bad(!isProgram(program));
            refuse(heights.isEmpty(), STATE);
            refuse(evenings.size() == 60, FULL);
            asked = breath(program);
            return playTruly(program);
        });
    }

    int undo(int n) {
        return answer(() -> {
            bad(!in(n, 0, evenings.size()));
            int many = 0;
            while (evenings.size() > n) {
                Evening last = evenings.remove(evenings.size() - 1);
                heights = new ArrayList<>(last.heights());
                for (int i = 0; i < bands.size(); i++) bands.get(i).moved = last.moved().get(i);
                many++;
            }
            return many;
        });
    }

    int heights(int r) {
        return answer(() -> {
            bad(!in(r, 0, 5));
            rows[r] = heights.stream().mapToInt(h -> h).toArray();
            return inches();
        });
    }

    private int inches() {
        return heights.stream().mapToInt(h -> h).sum();
    }

    int keep(int k) {
        return answer(() -> {
            bad(!in(k, 0, 2));
            refuse(heights.isEmpty(), STATE);
            List<Integer> spots = new ArrayList<>();
            for (Band band : bands) spots.add(band.spot);
            kept[k] = new Kept(List.copyOf(heights), List.copyOf(frost), spots, movedNow(), List.copyOf(evenings));
            return evenings.size();
        });
    }

    int on(int k) {
        return answer(() -> {
            bad(!in(k, 0, 2));
            find(kept[k] == null, 1);
            heights = new ArrayList<>(kept[k].heights());
            frost = new ArrayList<>(kept[k].frost());
            evenings = new ArrayList<>(kept[k].evenings());
            for (int i = 0; i < bands.size(); i++) {
                bands.get(i).spot = kept[k].spots().get(i);
                bands.get(i).moved = kept[k].moved().get(i);
            }
            return evenings.size();
        });
    }

    // ---- 3

    int behind(int program, int n, int x) {
        return answer(() -> {
            bad(!isProgram(program) || !in(n, 0, 60) || !isSpot(x));
            List<Integer> ground = behindAll();
            asked = 0;
            for (int e = 0; e < n; e++) asked += play(ground, program);
            return ground.get(x);
        });
    }

    private List<Integer> behindMany(int program, int n) {
        int[] all = new int[n];
        Arrays.fill(all, program);
        return behindAll(all);
    }

    int rest(int program) {
        return answer(() -> {
            bad(!isProgram(program));
            for (int n = 0; n <= 100; n++) {
                List<Integer> ground = behindMany(program, n);
                if (!ground.equals(behindMany(program, n + 1))) continue;
                asked = ground.isEmpty() ? 0 : Collections.max(ground);
                return n;
            }
            return NONE;
        });
    }

    int round(int program) {
        return answer(() -> {
            bad(!isProgram(program));
            for (int n = 1; n <= 100; n++) {
                if (behindMany(program, n).equals(heights)) return n;
            }
            return NONE;
        });
    }

    int highest(int x) {
        return answer(() -> {
            bad(!isSpot(x));
            List<Integer> high = new ArrayList<>();
            for (int p = 0; p < programs(); p++) high.add(behindAll(p).get(x));
            asked = Collections.max(high);
            return high.indexOf(asked);
        });
    }

    int lowest(int x) {
        return answer(() -> {
            bad(!isSpot(x));
            List<Integer> high = new ArrayList<>();
            for (int p = 0; p < programs(); p++) high.add(behindAll(p).get(x));
            asked = Collections.min(high);
            return high.indexOf(asked);
        });
    }

    // ---- 4

    private interface Goal {
        boolean reached(List<Integer> ground);
    }

    /** All PROGRAMS of n EVENINGS, in order; the one of least BREATH that reaches the goal, or null. */
    private int[] cheapest(int n, Goal goal) {
        int[] best = null;
        int all = (int) Math.round(Math.pow(programs(), n));
        for (int number = 0; number < all; number++) {
            int[] plan = new int[n];
            int left = number;
            for (int e = n - 1; e >= 0; e--) {
                plan[e] = left % programs();
                left /= programs();
            }
            if (best != null && breath(plan) >= breath(best)) continue;
            if (goal.reached(behindAll(plan))) best = plan;
        }
        return best;
    }

    int flat(int set, int r) {
        return answer(() -> {
            bad(!isSet(set) || !in(r, 0, 5));
            refuse(heights.isEmpty(), STATE);
            for (int n = 0; n <= 3; n++) {
                int[] plan = cheapest(n, ground -> {
                    for (int x = 0; x < ground.size(); x++) {
                        if ((set >> x & 1) == 1 && ground.get(x) != 0) return false;
                    }
                    return true;
                });
                if (plan == null) continue;
                rows[r] = plan;
                asked = breath(plan);
                return n;
            }
            return NONE;
        });
    }

    int raise(int x, int v, int n, int r) {
        return answer(() -> {
            bad(!isSpot(x) || !in(v, 0, 99) || !in(n, 0, 3) || !in(r, 0, 5));
            int[] plan = cheapest(n, ground -> ground.get(x) >= v);
            if (plan == null) return NONE;
            rows[r] = plan;
            return breath(plan);
        });
    }

    int keeps(int x) {
        return answer(() -> {
            bad(!isSpot(x));
            int most = -1;
            for (int p = 0; p < programs(); p++) {
                if (!behindAll(p).get(x).equals(heights.get(x)) || breath(p) <= most) continue;
                most = breath(p);
                asked = p;
            }
            return most;
        });
    }

    private int duel(List<Integer> ground, Band mover, Band other, boolean up, int x, int n) {
        if (n == 0) return ground.get(x);
        List<Integer> ends = new ArrayList<>();
        for (int tune = 0; tune < 3; tune++) {
            List<Integer> next = new ArrayList<>(ground);
            tune(next, mover, tune);
            ends.add(duel(next, other, mover, !up, x, n - 1));
        }
        return up ? Collections.max(ends) : Collections.min(ends);
    }

    int rivals(int i, int j, int x, int n) {
        return answer(() -> {
            bad(!isBand(i) || !isBand(j) || i == j || !isSpot(x) || !in(n, 0, 6));
            int high = duel(heights, bands.get(i), bands.get(j), true, x, n);
            asked = 0;
            for (int tune = 2; tune >= 0 && n > 0; tune--) {
                List<Integer> next = new ArrayList<>(heights);
                tune(next, bands.get(i), tune);
                if (duel(next, bands.get(j), bands.get(i), false, x, n - 1) == high) asked = tune;
            }
            return high;
        });
    }

    // ---- 5

    private List<Integer> asList(int r) {
        return Arrays.stream(rows[r]).boxed().toList();
    }

    private void fits(int r) {
        find(rows[r] == null, 1);
        find(rows[r].length != heights.size(), 5);
    }

    private List<Integer> fitting(int r) {
        List<Integer> all = new ArrayList<>();
        for (int p = 0; p < programs(); p++) {
            if (behindAll(p).equals(asList(r))) all.add(p);
        }
        return all;
    }

    int played(int r) {
        return answer(() -> {
            bad(!in(r, 0, 5));
            refuse(heights.isEmpty(), STATE);
            fits(r);
            List<Integer> all = fitting(r);
            asked = all.isEmpty() ? NONE : all.get(0);
            return all.size();
        });
    }

    int could(int i, int r) {
        return answer(() -> {
            bad(!isBand(i) || !in(r, 0, 5));
            fits(r);
            int set = 0;
            for (int p : fitting(r)) set |= 1 << tuneOf(p, i);
            return set;
        });
    }

    int twice(int r) {
        return answer(() -> {
            bad(!in(r, 0, 5));
            refuse(heights.isEmpty(), STATE);
            fits(r);
            List<Integer> all = new ArrayList<>();
            for (int p = 0; p < programs(); p++) {
                for (int q = 0; q < programs(); q++) {
                    if (behindAll(p, q).equals(asList(r))) all.add(1000 * p + q);
                }
            }
            asked = all.isEmpty() ? NONE : all.get(0);
            return all.size();
        });
    }

    // ---- 6

    int valleys() {
        StringBuilder ground = new StringBuilder();
        for (int h : heights) ground.append(h == 0 ? '0' : '1');
        int many = 0;
        asked = 0;
        for (String valley : ground.toString().split("1+")) {
            if (valley.isEmpty()) continue;
            many++;
            asked = Math.max(asked, valley.length());
        }
        return many;
    }

    private static int borderOf(List<Integer> ground, int x, int y) {
        List<Integer> part = ground.subList(x, y + 1);
        return x + part.indexOf(Collections.max(part));
    }

    int top() {
        return answer(() -> {
            refuse(heights.isEmpty(), STATE);
            asked = Collections.max(heights);
            return heights.indexOf(asked);
        });
    }

    int border(int x, int y) {
        return answer(() -> {
            bad(!isSpot(x) || !isSpot(y) || x >= y);
            int b = borderOf(heights, x, y);
            asked = heights.get(b);
            return b;
        });
    }

    int shifts(int x, int y) {
        return answer(() -> {
            bad(!isSpot(x) || !isSpot(y) || x >= y);
            List<Integer> all = new ArrayList<>();
            for (int p = 0; p < programs(); p++) {
                if (borderOf(behindAll(p), x, y) != borderOf(heights, x, y)) all.add(p);
            }
            asked = all.isEmpty() ? NONE : all.get(0);
            return all.size();
        });
    }

    private static List<Integer> inchByInch(List<Integer> ground) {
        List<Integer> all = new ArrayList<>();
        for (int x = 0; x < ground.size(); x++) {
            for (int h = 0; h < ground.get(x); h++) all.add(x);
        }
        return all;
    }

    int far(int r) {
        return answer(() -> {
            bad(!in(r, 0, 5));
            refuse(heights.isEmpty(), STATE);
            fits(r);
            find(asList(r).stream().anyMatch(h -> h < 0), 3);
            find(asList(r).stream().mapToLong(h -> h).sum() != inches(), 4);
            List<Integer> from = inchByInch(heights);
            List<Integer> to = inchByInch(asList(r));
            int way = 0;
            for (int i = 0; i < from.size(); i++) way += Math.abs(from.get(i) - to.get(i));
            return way;
        });
    }

    // ---- 7

    int season(int n, int seed) {
        return answer(() -> {
            bad(!in(n, 1, 40) || !in(seed, 1, 2147483646));
            refuse(heights.isEmpty(), STATE);
            refuse(evenings.size() + n > 60, FULL);
            long lot = seed;
            int all = 0;
            for (int e = 0; e < n; e++) {
                lot = 48271 * lot % 2147483647;
                for (int x = 0; x < frost.size(); x++) {
                    frost.set(x, lot / 128 % 2 == 1 && lot / 256 % heights.size() == x);
                }
                all += playTruly((int) (lot % programs()));
            }
            return all;
        });
    }

    // ---- 8

    int asked() {
        return asked;
    }

    private long part(boolean upper) {
        int all = inches();
        if (all == 0) return upper ? 0 : 1;
        int high = Collections.max(heights);
        int d = all;
        while (high % d != 0 || all % d != 0) d--;
        return (upper ? high : all) / d;
    }

    long upper() {
        return part(true);
    }

    long lower() {
        return part(false);
    }

    int count(int what) {
        switch (what) {
            case 0: return heights.size();
            case 1: return bands.size();
            case 2: return evenings.size();
            case 3: return heights.isEmpty() ? 0 : programs();
            case 4: return (int) frost.stream().filter(f -> f).count();
            case 5: return (int) bands.stream().filter(b -> b instanceof Drum).count();
            case 6: return (int) Arrays.stream(rows).filter(r -> r != null).count();
            case 7: return (int) Arrays.stream(texts).filter(t -> t != null).count();
            case 8: return (int) Arrays.stream(kept).filter(k -> k != null).count();
            default: return BAD;
        }
    }

    int finding() {
        return finding;
    }

    int findings(int f) {
        return in(f, 1, 5) ? findings[f] : BAD;
    }

    long digest() {
        List<Integer> all = new ArrayList<>();
        for (int what = 0; what <= 8; what++) all.add(count(what));
        for (int x = 0; x < heights.size(); x++) {
            all.add(heights.get(x));
            all.add(frost.get(x) ? 1 : 0);
        }
        for (Band band : bands) {
            for (int what = 0; what <= 4; what++) all.add(told(band, what));
        }
        for (Evening e : evenings) all.add(e.program());
        for (Kept k : kept) all.add(k == null ? -1 : k.evenings().size());
        for (int[] r : rows) {
            all.add(r == null ? -1 : r.length);
            if (r != null) Arrays.stream(r).forEach(all::add);
        }
        for (byte[] t : texts) {
            all.add(t == null ? -1 : t.length);
            if (t != null) for (byte b : t) all.add((int) b);
        }
        long h = 17;
        for (int v : all) h = 31 * h + v;
        return h;
    }
}
