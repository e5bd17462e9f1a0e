import java.lang.reflect.Constructor;
import java.lang.reflect.Field;
import java.lang.reflect.Method;
import java.lang.reflect.Modifier;
import java.nio.file.Files;
import java.nio.file.Path;
import java.util.HashMap;
import java.util.HashSet;
import java.util.Map;
import java.util.Set;
import java.util.TreeSet;
import java.util.regex.Matcher;
import java.util.regex.Pattern;

/** The face as the document has it, and the rules of LANGUAGE.md that can be read off the source. */
public final class LanguageTest {
    private static final Due due = new Due();

    public static void main(String[] args) throws Exception {
        Path shared = Path.of(args.length > 0 ? args[0] : "../shared");
        String doc = Files.readString(shared.resolve("DOC.md"));
        String source = withoutComments(Files.readString(Path.of("src/main/java/MovingHills.java")));
        face(doc);
        constants(doc);
        classes();
        words(source);
        loops(source);
        lengths(source);
        depths(source);
        due.end("LanguageTest");
    }

    private static String withoutComments(String source) {
        return source.replaceAll("(?s)/\\*.*?\\*/", "").replaceAll("//[^\n]*", "");
    }

    private static void face(String doc) {
        Set<String> want = new TreeSet<>();
        Matcher m = Pattern.compile("    public (int|long) (\\w+)\\(([^)]*)\\);").matcher(doc);
        while (m.find()) want.add(m.group(1) + " " + m.group(2) + " " + m.group(3).replaceAll(" \\w+(,|$)", "$1"));
        Set<String> got = new TreeSet<>();
        for (Method method : MovingHills.class.getDeclaredMethods()) {
            if (Modifier.isPrivate(method.getModifiers())) continue;
            due.holds(method + " is public", Modifier.isPublic(method.getModifiers()));
            StringBuilder types = new StringBuilder();
            for (Class<?> type : method.getParameterTypes()) types.append(types.length() == 0 ? "" : ", ").append(type);
            got.add(method.getReturnType() + " " + method.getName() + " " + types);
        }
        due.is("methods of the face", want.size(), 46 - 1);
        due.holds("the face is " + want + ", not " + got, got.equals(want));
        Constructor<?>[] constructors = MovingHills.class.getDeclaredConstructors();
        due.is("constructors", constructors.length, 1);
        due.is("its parameters", constructors[0].getParameterCount(), 0);
        due.holds("it is public", Modifier.isPublic(constructors[0].getModifiers()));
        due.holds("the class is public and final",
            Modifier.isPublic(MovingHills.class.getModifiers()) && Modifier.isFinal(MovingHills.class.getModifiers()));
        due.holds("no package", MovingHills.class.getPackageName().isEmpty());
    }

    private static void constants(String doc) throws Exception {
        Matcher line = Pattern.compile("public static final int ([^;]*);").matcher(doc);
        due.holds("the document has constants", line.find());
        Set<String> names = new HashSet<>();
        for (String one : line.group(1).split(", ")) {
            String[] parts = one.split(" = ");
            names.add(parts[0]);
            Field field = MovingHills.class.getField(parts[0]);
            due.is(one, field.getInt(null), Integer.parseInt(parts[1]));
        }
        for (Field field : MovingHills.class.getDeclaredFields()) {
            boolean known = names.contains(field.getName());
            due.holds(field + " is private, or of the face", known || Modifier.isPrivate(field.getModifiers()));
        }
    }

    private static void classes() {
        Set<String> face = new HashSet<>();
        for (Method m : MovingHills.class.getMethods()) {
            if (m.getDeclaringClass() == MovingHills.class) face.add(m.getName());
        }
        Class<?>[] inside = MovingHills.class.getDeclaredClasses();
        due.holds("at most twelve classes", inside.length + 1 <= 12);
        members(MovingHills.class, face);
        for (Class<?> c : inside) {
            due.holds(c + " is static", Modifier.isStatic(c.getModifiers()));
            due.holds(c + " is not public", !Modifier.isPublic(c.getModifiers()) && !Modifier.isProtected(c.getModifiers()));
            members(c, face);
        }
    }

    private static void members(Class<?> c, Set<String> face) {
        int fields = 0;
        for (Field field : c.getDeclaredFields()) {
            if (!Modifier.isStatic(field.getModifiers())) fields++;
            else due.holds(field + " is final", Modifier.isFinal(field.getModifiers()));
        }
        due.holds(c + " has at most twenty fields", fields <= 20);
        for (Method m : c.getDeclaredMethods()) {
            due.holds(m + " takes at most seven", m.getParameterCount() <= 7);
            boolean ofFace = c == MovingHills.class && Modifier.isPublic(m.getModifiers());
            due.holds(m + " bears a name of its own", ofFace || !face.contains(m.getName()));
        }
    }

    private static void words(String source) {
        String[] none = {"throw", "throws", "try", "catch", "finally", "synchronized", "assert", "import", "package",
            "hashCode", "toString", "Thread", "Random", "Exact", "volatile", "transient", "native", "strictfp",
            "double", "float", "Object", "this\\s*[,)]"};
        for (String word : none) {
            due.holds("no '" + word + "'", !Pattern.compile("\\b" + word + "(\\b|$)").matcher(source).find());
        }
        due.holds("no lambda", !source.contains("->"));
        due.holds("no method reference", !source.contains("::"));
        due.holds("no catch-all loop", !Pattern.compile("while\\s*\\(true\\)|for\\s*\\(\\s*;").matcher(source).find());
        due.holds("signs 0 to 127 alone", source.chars().allMatch(c -> c < 128));
        Matcher library = Pattern.compile("\\b(System|Math|Integer|Long|Arrays)\\.(\\w+)").matcher(source);
        Set<String> fine = Set.of("System.arraycopy", "Math.max", "Math.min", "Math.abs", "Integer.bitCount");
        while (library.find()) due.holds(library.group() + " is listed", fine.contains(library.group()));
    }

    private static void loops(String source) {
        Matcher m = Pattern.compile("\\bfor\\s*\\(([^;]*);([^;]*);").matcher(source);
        while (m.find()) due.holds("a bound in " + m.group(), m.group(2).matches(".*(<|>).*"));
    }

    /** Braces tell where a method ends: no text or sign in the source holds one. */
    private static void lengths(String source) {
        Pattern head = Pattern.compile("^    (    )?\\S.*\\) \\{$");
        String[] lines = source.split("\n");
        int from = -1;
        for (int i = 0; i < lines.length; i++) {
            if (head.matcher(lines[i]).find()) from = i;
            if (from >= 0 && lines[i].matches("^    (    )?}$")) {
                due.holds(lines[from].trim() + " is short", i - from < 60);
                from = -1;
            }
        }
    }

    /** How deep calls go, by names alone: two methods of one name count as one that calls what either calls. */
    private static void depths(String source) {
        Map<String, Set<String>> calls = new HashMap<>();
        Matcher head = Pattern.compile("(?m)^( {4}| {8})(\\w[\\w\\[\\] ]*? )?(\\w+)\\([^()]*\\) \\{$").matcher(source);
        while (head.find()) {
            String body = source.substring(head.end(), source.indexOf("\n" + head.group(1) + "}", head.start()));
            Set<String> called = calls.computeIfAbsent(head.group(3), name -> new HashSet<>());
            Matcher call = Pattern.compile("(\\w+)\\(").matcher(body);
            while (call.find()) called.add(call.group(1));
        }
        due.holds("methods are found", calls.size() > 46);
        for (String name : calls.keySet()) {
            due.holds("calls from " + name + " go at most eight deep", depth(name, calls, new HashSet<>()) <= 8);
        }
    }

    /** A call back to a name that is open already is recursion, which goes by another rule. */
    private static int depth(String name, Map<String, Set<String>> calls, Set<String> open) {
        if (!calls.containsKey(name) || !open.add(name)) return 0;
        int deepest = 0;
        for (String called : calls.get(name)) deepest = Math.max(deepest, depth(called, calls, open));
        open.remove(name);
        return 1 + deepest;
    }
}
