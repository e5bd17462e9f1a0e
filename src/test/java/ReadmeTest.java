import java.io.IOException;
import java.net.URL;
import java.net.URLClassLoader;
import java.nio.file.Files;
import java.nio.file.Path;
import java.util.Comparator;
import java.util.List;
import java.util.regex.Matcher;
import java.util.regex.Pattern;
import java.util.stream.Stream;
import javax.tools.ToolProvider;

/** What README.md says must be so: its example is compiled and run, its commands and names are looked up. */
public final class ReadmeTest {
    private static final Due due = new Due();
    private static final Pattern ANSWERED =
        Pattern.compile("(x\\.\\w+\\(.*\\)); +// (-?\\d+|BAD|FULL|FINDING|STATE|SPENT|NONE)\\b.*");

    private ReadmeTest() {
    }

    public static void main(String[] args) throws Exception {
        String readme = Files.readString(Path.of("README.md"));
        example(block(readme, "java"));
        commands(block(readme, "sh"));
        tests(readme);
        due.end("ReadmeTest");
    }

    private static String block(String readme, String language) {
        Matcher m = Pattern.compile("(?s)```" + language + "\n(.*?)```").matcher(readme);
        due.holds("README.md has a part in " + language, m.find());
        return m.group(1);
    }

    /** The example's lines as they stand; where one tells an answer, it is compared. */
    private static void example(String lines) throws Exception {
        StringBuilder body = new StringBuilder();
        int answers = 0;
        for (String line : lines.split("\n")) {
            Matcher m = ANSWERED.matcher(line);
            if (m.matches()) {
                answers++;
                String want = m.group(2).matches("-?\\d+") ? m.group(2) : "MovingHills." + m.group(2);
                body.append("due.accept(\"").append(m.group(1)).append("\", new long[] {")
                    .append(m.group(1)).append(", ").append(want).append("});\n");
            } else {
                due.holds("an answer behind " + line, !line.startsWith("x."));
                body.append(line).append('\n');
            }
        }
        due.holds("the example has answers", answers > 0);
        runs(body.toString());
    }

    private static void runs(String body) throws Exception {
        Path made = Files.createTempDirectory("readme");
        try {
            Path file = made.resolve("ReadmeExample.java");
            Files.writeString(file, "public final class ReadmeExample implements "
                + "java.util.function.Consumer<java.util.function.BiConsumer<String, long[]>> {\n"
                + "public void accept(java.util.function.BiConsumer<String, long[]> due) {\n" + body + "}\n}\n");
            int failed = ToolProvider.getSystemJavaCompiler().run(null, null, null,
                "-cp", System.getProperty("java.class.path"), "-d", made.toString(), file.toString());
            due.is("the example compiles", failed, 0);
            if (failed == 0) run(made);
        } finally {
            delete(made);
        }
    }

    @SuppressWarnings("unchecked")
    private static void run(Path made) throws Exception {
        try (URLClassLoader loader = new URLClassLoader(new URL[] {made.toUri().toURL()})) {
            Object example = loader.loadClass("ReadmeExample").getDeclaredConstructor().newInstance();
            java.util.function.BiConsumer<String, long[]> compare = (call, answer) -> due.is(call, answer[0], answer[1]);
            ((java.util.function.Consumer<java.util.function.BiConsumer<String, long[]>>) example).accept(compare);
        }
    }

    private static void delete(Path made) throws IOException {
        List<Path> all;
        try (Stream<Path> found = Files.walk(made)) {
            all = found.sorted(Comparator.reverseOrder()).toList();
        }
        for (Path one : all) Files.delete(one);
    }

    private static void commands(String lines) {
        for (String line : lines.split("\n")) {
            String script = line.replaceFirst("^bash ", "");
            due.holds(line + ": the script is there", Files.isExecutable(Path.of(script)));
        }
    }

    private static void tests(String readme) throws IOException {
        try (Stream<Path> found = Files.list(Path.of("src/test/java"))) {
            for (Path one : found.toList()) {
                String name = one.getFileName().toString().replace(".java", "");
                if (name.endsWith("Test")) due.holds(name + " is named", readme.contains("`" + name + "`"));
            }
        }
        Matcher m = Pattern.compile("`(\\w+(Test|Sentences)|Model)`").matcher(readme);
        while (m.find()) due.holds(m.group(1) + " is there", Files.exists(Path.of("src/test/java", m.group(1) + ".java")));
    }
}
