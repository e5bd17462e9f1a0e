import java.util.HashMap;
import java.util.LinkedHashMap;
import java.util.Map;
import java.util.function.Consumer;

/**
 * The words of the document's "Terms" and promises. Each test says by which of them it
 * stands; at the end no word may be left without one.
 */
final class Sentences {
    private static final int SECTIONS = 1 + 46;

    private final Map<String, String> words = new LinkedHashMap<>();
    private final Map<String, boolean[]> tested = new HashMap<>();
    private final Due due;
    private String section = "";

    Sentences(String doc, Due due) {
        this.due = due;
        for (String part : doc.split("\n## ")) {
            String heading = part.substring(0, part.indexOf('\n'));
            if (!heading.equals("Terms") && !heading.startsWith("Promise ")) continue;
            String text = plain(part.substring(heading.length()));
            words.put(heading.replaceAll(":.*", ""), text);
            tested.put(heading.replaceAll(":.*", ""), new boolean[text.length()]);
        }
        due.is("sections of the document", words.size(), SECTIONS);
    }

    /** Without the signature of the call, what stands ahead of calls, and signs of form. */
    private static String plain(String text) {
        return text.replaceAll("(?m)^Ahead of the calls .*$", "").replaceAll("(?m)^```\\w*$", "")
            .replaceFirst("(?s)^\\s*`[^`]*`: ", "").replaceAll("\\s+", " ");
    }

    void in(String heading) {
        section = heading;
        due.about(heading);
        due.holds("it stands in the document", words.containsKey(heading));
    }

    /** Runs a test of some words of the section: the first such ones that have none yet. */
    void test(String some, Consumer<Due> test) {
        due.about(section + " \"" + some + "\"");
        String text = words.getOrDefault(section, "");
        boolean[] marks = tested.getOrDefault(section, new boolean[0]);
        int from = text.indexOf(some);
        while (from >= 0 && marks[from]) from = text.indexOf(some, from + 1);
        due.holds("it stands in the document, without a test yet", from >= 0);
        for (int i = 0; i < some.length() && from >= 0; i++) marks[from + i] = true;
        int ahead = due.checks();
        test.accept(due);
        due.holds("it is tested", due.checks() > ahead);
    }

    void end() {
        for (String heading : words.keySet()) {
            due.about(heading);
            StringBuilder left = new StringBuilder();
            String text = words.get(heading);
            for (int i = 0; i < text.length(); i++) left.append(tested.get(heading)[i] ? ' ' : text.charAt(i));
            String untested = left.toString().trim().replaceAll("\\s+", " ");
            due.holds("without a test: " + untested, !untested.matches(".*[A-Za-z0-9].*"));
        }
    }
}
