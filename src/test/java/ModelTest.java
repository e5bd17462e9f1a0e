import java.lang.reflect.InvocationTargetException;
import java.lang.reflect.Method;
import java.lang.reflect.Modifier;
import java.util.ArrayList;
import java.util.Arrays;
import java.util.Comparator;
import java.util.List;
import java.util.Random;

/** Runs of calls by fixed seeds: each answer of the class has to be the Model's. */
public final class ModelTest {
    private static final int RUNS = 1000;
    /** What later calls answer is free. */
    private static final int CALLS = 512;
    /** What one step of a run takes at most, and its end. */
    private static final int STEP = 80;
    private static final int[] EDGES = {-1, 0, 1, 2, 3, 4, 5, 6, 7, 8, 9, 10, 27, 40, 41, 60, 61, 80, 81, 99, 100,
        101, 255, 1000, 1023, Integer.MAX_VALUE, Integer.MAX_VALUE - 1, Integer.MIN_VALUE, Integer.MIN_VALUE + 1, -2};

    private static int wrong = 0;
    private static long checks = 0;
    private static int made = 0;

    public static void main(String[] args) throws Exception {
        List<Method> calls = new ArrayList<>();
        for (Method m : MovingHills.class.getDeclaredMethods()) {
            if (Modifier.isPublic(m.getModifiers())) calls.add(m);
        }
        calls.sort(Comparator.comparing(Method::getName));
        for (int run = 0; run < RUNS && wrong == 0; run++) oneRun(run, calls);
        System.out.println("ModelTest: " + checks + " answers, " + wrong + " not as due");
        if (wrong != 0) System.exit(1);
    }

    private static void oneRun(int run, List<Method> calls) throws Exception {
        Random random = new Random(run);
        MovingHills x = new MovingHills();
        Model model = new Model();
        List<String> said = new ArrayList<>();
        made = 0;
        // Some runs stay without SPOTS for a while, and some are wilder than others.
        boolean settled = random.nextInt(8) != 0;
        int wild = random.nextInt(3) == 0 ? 3 : 25;
        if (settled) settle(random, x, model, said);
        while (made + STEP <= CALLS && wrong == 0) {
            if (random.nextInt(60) == 0) settle(random, x, model, said);
            if (random.nextInt(12) == 0) layHeights(random, x, model, said);
            Method m = calls.get(random.nextInt(calls.size()));
            if (isDear(m) && random.nextInt(6) != 0) continue;
            call(x, model, m, arguments(random, m, model, wild), said);
            compare(x, model, said);
        }
        for (int f = 1; f <= 5; f++) due("findings()", x.findings(f), model.findings(f), said);
    }

    private static boolean isDear(Method m) {
        return m.getName().equals("flat") || m.getName().equals("raise") || m.getName().equals("twice");
    }

    private static void compare(MovingHills x, Model model, List<String> said) {
        due("digest()", x.digest(), model.digest(), said);
        due("asked()", x.asked(), model.asked(), said);
        due("finding()", x.finding(), model.finding(), said);
    }

    private static void due(String what, long got, long want, List<String> said) {
        checks++;
        made++;
        if (got == want || wrong > 0) return;
        wrong++;
        System.out.println("behind " + String.join("; ", said));
        System.out.println(what + " answered " + got + ", due is " + want);
    }

    private static void call(MovingHills x, Model model, Method m, Object[] arguments, List<String> said)
        throws Exception {
        said.add(m.getName() + Arrays.toString(arguments));
        Method twin = Model.class.getDeclaredMethod(m.getName(), m.getParameterTypes());
        long got;
        try {
            got = ((Number) m.invoke(x, arguments)).longValue();
        } catch (InvocationTargetException e) {
            wrong++;
            System.out.println("thrown behind " + String.join("; ", said) + ": " + e.getCause());
            return;
        }
        due(said.get(said.size() - 1), got, ((Number) twin.invoke(model, arguments)).longValue(), said);
    }

    private static void settle(Random random, MovingHills x, Model model, List<String> said) {
        String land = landOf(random);
        int t = random.nextInt(4);
        said.add("text " + t + " is '" + land + "', land(" + t + ")");
        x.text(t, land.length());
        model.text(t, land.length());
        for (int i = 0; i < land.length(); i++) {
            x.put(t, i, land.charAt(i));
            model.put(t, i, land.charAt(i));
        }
        made += 1 + land.length();
        due("fault(" + t + ")", x.fault(t), model.fault(t), said);
        due("land(" + t + ")", x.land(t), model.land(t), said);
    }

    /** Most of these are fine; some have a sign too many, too few or another one. */
    private static String landOf(Random random) {
        StringBuilder s = new StringBuilder();
        blanks(random, s);
        s.append('g');
        int spots = 2 + random.nextInt(9);
        int most = 1 + random.nextInt(10);
        for (int i = 0; i < spots; i++) s.append(random.nextInt(most));
        int bands = random.nextInt(10) == 0 ? random.nextInt(5) : 1 + random.nextInt(3);
        for (int i = 0; i < bands; i++) {
            blanks(random, s);
            s.append("bdpcte".charAt(random.nextInt(6))).append(random.nextInt(spots)).append(1 + random.nextInt(9));
        }
        blanks(random, s);
        if (random.nextInt(6) == 0) spoil(random, s);
        return s.toString();
    }

    private static void blanks(Random random, StringBuilder s) {
        for (int n = random.nextInt(3); n > 0; n--) s.append(' ');
    }

    private static void spoil(Random random, StringBuilder s) {
        int i = random.nextInt(s.length());
        switch (random.nextInt(4)) {
            case 0: s.deleteCharAt(i); break;
            case 1: s.insert(i, "g bdpcte0123456789x".charAt(random.nextInt(19))); break;
            case 2: s.setCharAt(i, "g bdpcte0123456789x".charAt(random.nextInt(19))); break;
            default: s.setLength(i); break;
        }
    }

    /** A ROW as the HEIGHTS are, or a little otherwise, for played(), twice(), far(). */
    private static void layHeights(Random random, MovingHills x, Model model, List<String> said) {
        int r = random.nextInt(6);
        said.add("heights(" + r + ") changed a little");
        due("heights(" + r + ")", x.heights(r), model.heights(r), said);
        int spots = model.count(0);
        for (int n = random.nextInt(4); n > 0 && spots > 0; n--) {
            int from = random.nextInt(spots);
            int to = Math.max(0, Math.min(spots - 1, from + random.nextInt(3) - 1));
            change(x, model, r, from, -1);
            change(x, model, r, to, 1);
        }
    }

    private static void change(MovingHills x, Model model, int r, int i, int by) {
        x.at(r, i);
        model.at(r, i);
        x.lay(r, i, model.asked() + by);
        model.lay(r, i, model.asked() + by);
        made += 2;
    }

    private static Object[] arguments(Random random, Method m, Model model, int wild) {
        Object[] all = new Object[m.getParameterCount()];
        for (int i = 0; i < all.length; i++) {
            all[i] = random.nextInt(wild) == 0 ? EDGES[random.nextInt(EDGES.length)] : likely(random, m.getName(), i, model);
        }
        return all;
    }

    private static int likely(Random random, String call, int i, Model model) {
        int spots = Math.max(1, model.count(0));
        int programs = Math.max(1, model.count(3));
        int bands = Math.max(1, model.count(1));
        switch (call + i) {
            case "evening0": case "behind0": case "rest0": case "round0": return random.nextInt(programs);
            case "behind1": return random.nextInt(61);
            case "behind2": case "spot0": case "move1": case "highest0": case "lowest0": case "raise0": case "keeps0":
            case "rivals2": case "border0": case "border1": case "shifts0": case "shifts1": return random.nextInt(spots);
            case "band0": case "mark0": case "move0": case "could0": case "rivals0": case "rivals1":
                return random.nextInt(bands);
            case "band1": return random.nextInt(5);
            case "mark1": return 1 + random.nextInt(5);
            case "frost0": return random.nextInt(1 << spots) & random.nextInt(1 << spots);
            case "flat0": return 1 << random.nextInt(spots) | (random.nextBoolean() ? 1 << random.nextInt(spots) : 0);
            case "undo0": return Math.max(0, model.count(2) - random.nextInt(4));
            case "raise1": return random.nextInt(16);
            case "raise2": return random.nextInt(4);
            case "rivals3": return random.nextInt(7);
            case "keep0": case "on0": return random.nextInt(3);
            case "season0": return 1 + random.nextInt(12);
            case "season1": return 1 + random.nextInt(2147483646);
            case "count0": return random.nextInt(9);
            case "findings0": return 1 + random.nextInt(5);
            case "text0": case "put0": case "fault0": case "land0": return random.nextInt(4);
            case "put2": return random.nextInt(300) - 20;
            default: return random.nextInt(6);
        }
    }
}
