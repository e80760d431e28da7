import java.io.IOException;
import java.nio.file.Files;
import java.nio.file.Path;
import java.util.LinkedHashMap;
import java.util.Map;
import java.util.regex.Matcher;
import java.util.regex.Pattern;

/**
 * The document in parts, and the sentence of it that is being tested. Each sentence is quoted from the
 * document, so that at the end it can be told which of its words no test was made for.
 */
final class Doc {
    private static final Path PLACE = Path.of("../shared/DOC.md");
    private static final Map<String, String> PARTS = new LinkedHashMap<>();
    private static final Map<String, boolean[]> QUOTED = new LinkedHashMap<>();
    private static String part = "";
    private static String sentence = "";
    /** Where the sentence began, in checks; NONE: no sentence is open. */
    private static int begunAt = Subject.NONE;
    private static int checks;
    private static int wrong;

    private Doc() {
    }

    static void read() throws IOException {
        if (!Files.isReadable(PLACE)) {
            System.out.println("the document is not here: its words are not looked at");
            return;
        }
        String text = Files.readString(PLACE).replaceAll("```(text)?", " ");
        addPart("terms", text, "## Terms\\s+(.*?)======== 1 ");
        addPart("land", text, "======== 1 (.*?)======== 2 ");
        addPart("heads", text, "======== 2 (.*?)======== 3 ");
        addPart("tried", text, "======== 3 (.*?)Ahead of the calls");
        for (int n = 1; n <= 29; n++) {
            addPart("promise " + n, text, "## Promise " + n + ": [^\n]*\\s+`[^`]*`: (.*?)\\s## ");
        }
    }

    private static void addPart(String name, String text, String pattern) {
        Matcher m = Pattern.compile(pattern, Pattern.DOTALL).matcher(text);
        String words = m.find() ? m.group(1).replaceAll("\\s+", " ").trim() : "";
        if (words.isEmpty()) {
            fail("the document has no " + name);
        }
        PARTS.put(name, words);
        QUOTED.put(name, new boolean[words.length()]);
    }

    static void part(String name) {
        part = name;
    }

    /** What is tested from here on. */
    static void sentence(String words) {
        endSentence();
        quote(words);
        sentence = words;
        begunAt = checks;
    }

    /** Words that name no boundary by themselves. */
    static void plain(String words) {
        endSentence();
        quote(words);
    }

    private static void endSentence() {
        if (begunAt == checks) {
            fail("nothing was tested");
        }
        begunAt = Subject.NONE;
    }

    private static void quote(String words) {
        if (PARTS.isEmpty()) {
            return;
        }
        int from = PARTS.getOrDefault(part, "").indexOf(words);
        if (from < 0) {
            fail("the document does not say there: " + words);
            return;
        }
        for (int k = from; k < from + words.length(); k++) {
            QUOTED.get(part)[k] = true;
        }
    }

    static void check(boolean good, String what) {
        checks++;
        if (!good) {
            fail(what);
        }
    }

    private static void fail(String what) {
        wrong++;
        System.out.println(part + ", \"" + sentence + "\": " + what);
    }

    /** Answers whether all was as due. */
    static boolean end() {
        endSentence();
        for (String name : PARTS.keySet()) {
            String left = leftOf(PARTS.get(name), QUOTED.get(name));
            if (!left.isEmpty()) {
                wrong++;
                System.out.println(name + ": no test for: " + left);
            }
        }
        System.out.println(wrong == 0 ? "the boundaries hold, by " + checks + " checks" : wrong + " faults at the boundaries");
        return wrong == 0;
    }

    private static String leftOf(String words, boolean[] quoted) {
        StringBuilder left = new StringBuilder();
        for (int k = 0; k < quoted.length; k++) {
            left.append(quoted[k] ? ' ' : words.charAt(k));
        }
        return left.toString().replaceAll("\\s+", " ").trim();
    }
}
