import java.nio.file.Files;
import java.nio.file.Path;
import java.util.ArrayList;
import java.util.LinkedHashMap;
import java.util.List;
import java.util.Map;
import java.util.regex.Matcher;
import java.util.regex.Pattern;

// That the tests of edges leave no sentence out: each sentence of the document's terms, and each one that tells what a
// promise answers, is named by a test, and what a test names stands in the document word by word.
public final class SentenceTest {
    private static final Path DOCUMENT = Path.of("../shared/DOC.md");
    private static final Path TESTS = Path.of("src/test/java");
    private static final List<String> TITLES = List.of("Headings.", "Goods.", "The heading of a good.", "Origin.", "Duty.",
        "Entering and exporting.", "Texts.", "Reasons.", "Changes.", "Codes.", "In doubt.");
    private static final Pattern NAMED = Pattern.compile("says\\(\"([^\"]+)\",\\s*((?:\"(?:[^\"\\\\]|\\\\.)*\"[\\s+]*)+)\\)");
    private static final Pattern PIECE = Pattern.compile("\"((?:[^\"\\\\]|\\\\.)*)\"");

    private static int wrong = 0;

    private static void told(String what) {
        wrong++;
        System.out.println(what);
    }

    private static String plain(String text) {
        return text.replaceAll("\\s+", " ").strip();
    }

    /** The paragraphs of each part of the document, by "Terms", "Promise 1" and so on. */
    private static Map<String, List<String>> partsOfDocument() throws Exception {
        Map<String, List<String>> parts = new LinkedHashMap<>();
        List<String> part = new ArrayList<>();
        for (String paragraph : Files.readString(DOCUMENT).split("\n\\s*\n")) {
            if (paragraph.startsWith("## ")) {
                part = new ArrayList<>();
                parts.put(plain(paragraph.substring(3)).replaceAll(":.*", ""), part);
            } else {
                part.add(plain(paragraph));
            }
        }
        return parts;
    }

    private static Map<String, List<String>> namedByTests() throws Exception {
        Map<String, List<String>> named = new LinkedHashMap<>();
        List<Path> files;
        try (var all = Files.list(TESTS)) {
            files = all.filter(file -> file.toString().endsWith(".java")).sorted().toList();
        }
        for (Path file : files) {
            Matcher matcher = NAMED.matcher(Files.readString(file));
            while (matcher.find()) {
                StringBuilder sentence = new StringBuilder();
                Matcher piece = PIECE.matcher(matcher.group(2));
                while (piece.find()) {
                    sentence.append(piece.group(1).replace("\\\"", "\""));
                }
                named.computeIfAbsent(matcher.group(1), key -> new ArrayList<>()).add(sentence.toString());
            }
        }
        return named;
    }

    /** The sentences that a test is due for; titles of paragraphs and what the interface says tell of no edge. */
    private static List<String> sentencesOf(String name, List<String> paragraphs) {
        List<String> sentences = new ArrayList<>();
        for (String paragraph : paragraphs) {
            boolean isOfAnswers = paragraph.startsWith("Returns ") || paragraph.startsWith("`SilkTariff()`");
            if (paragraph.startsWith("Ahead of the calls") || (name.startsWith("Promise") && !isOfAnswers)) {
                continue;
            }
            for (String sentence : paragraph.split("(?<=\\.) (?=[A-Z])")) {
                if (!TITLES.contains(sentence)) {
                    sentences.add(sentence);
                }
            }
        }
        return sentences;
    }

    public static void main(String[] args) throws Exception {
        Map<String, List<String>> document = partsOfDocument();
        Map<String, List<String>> named = namedByTests();
        for (Map.Entry<String, List<String>> each : named.entrySet()) {
            String part = String.join(" ", document.getOrDefault(each.getKey(), List.of()));
            for (String sentence : each.getValue()) {
                if (!part.contains(sentence)) {
                    told("not in the document, " + each.getKey() + ": " + sentence);
                }
            }
        }
        int sentences = 0;
        for (Map.Entry<String, List<String>> each : document.entrySet()) {
            if (!each.getKey().equals("Terms") && !each.getKey().startsWith("Promise")) {
                continue;
            }
            List<String> due = sentencesOf(each.getKey(), each.getValue());
            sentences += due.size();
            for (String sentence : due) {
                if (named.getOrDefault(each.getKey(), List.of()).stream().noneMatch(s -> sentence.contains(s) || s.contains(sentence))) {
                    told("no test of edges for " + each.getKey() + ": " + sentence);
                }
            }
        }
        System.out.println(wrong == 0 ? "all " + sentences + " sentences are named by a test" : wrong + " sentences are not as due");
        if (wrong != 0 || sentences < 70) {
            System.exit(1);
        }
    }
}
