import java.io.IOException;
import java.nio.file.Files;
import java.nio.file.Path;
import java.util.ArrayList;
import java.util.Arrays;
import java.util.LinkedHashMap;
import java.util.List;
import java.util.Map;
import java.util.regex.Matcher;
import java.util.regex.Pattern;
import java.util.stream.Stream;

/**
 * Each sentence that a test says it holds stands in the document under that heading, and each sentence of "What
 * it is", the Terms and the promises is held by a test (FaceTest holds the public face, and what is not promised
 * needs none). Run from the project's folder.
 */
public final class SentencesTest {
    private static final Due DUE = new Due("SentencesTest");
    private static final Path DOCUMENT = Path.of("../shared/DOC.md");
    private static final Pattern SAYS = Pattern.compile(
            "\\.says\\(\\s*\"([^\"]+)\",\\s*((?:\"[^\"]*\"\\s*\\+?\\s*)+)\\);");
    /** What tells no answer: the parts' numbers, fences, the calls' heads, and which calls are of which part. */
    private static final Pattern NO_SENTENCE = Pattern.compile(
            "======== \\d|```(text)?|`(int )?[a-zA-Z]+\\([a-z ,]*\\)`:|Ahead of the calls [^.]* the interface says: "
            + "---- \\d [a-z, ]+\\.");

    public static void main(String[] args) throws IOException {
        if (!Files.exists(DOCUMENT)) {
            System.out.println("SentencesTest: the document is not there, so nothing can be held against it");
            return;
        }
        Map<String, String> document = document();
        Map<String, List<String>> held = held();
        for (String heading : held.keySet()) {
            String text = document.getOrDefault(heading, "");
            for (String sentence : held.get(heading)) {
                DUE.holds(heading + " says: " + sentence, text.contains(sentence));
            }
        }
        for (String heading : document.keySet()) {
            if (heading.equals("What it is") || heading.equals("Terms") || heading.startsWith("Promise ")) {
                DUE.same("held by no test, " + heading,
                        rest(document.get(heading), held.getOrDefault(heading, List.of())), "");
            }
        }
        DUE.is("promises", document.keySet().stream().filter(heading -> heading.startsWith("Promise ")).count(), 19);
        DUE.end();
    }

    /** The text under each heading, a promise's by its number alone, with single blanks. */
    private static Map<String, String> document() throws IOException {
        Map<String, String> sections = new LinkedHashMap<>();
        for (String section : Files.readString(DOCUMENT).split("(?m)^## ")) {
            int end = section.indexOf('\n');
            String heading = section.substring(0, end).replaceFirst(":.*", "").trim();
            sections.put(heading, section.substring(end).replaceAll("\\s+", " ").trim());
        }
        return sections;
    }

    private static Map<String, List<String>> held() throws IOException {
        Map<String, List<String>> held = new LinkedHashMap<>();
        try (Stream<Path> files = Files.list(Path.of("src/test/java"))) {
            for (Path file : files.sorted().toList()) {
                Matcher says = SAYS.matcher(Files.readString(file));
                while (says.find()) {
                    String sentence = says.group(2).replaceAll("\"\\s*\\+\\s*\"", "").replace("\"", "").trim();
                    held.computeIfAbsent(says.group(1), heading -> new ArrayList<>()).add(sentence);
                }
            }
        }
        return held;
    }

    /** What is left of a section when all that is held and all that is no sentence is taken away. */
    private static String rest(String text, List<String> sentences) {
        String[] longestFirst = sentences.toArray(new String[0]);
        Arrays.sort(longestFirst, (one, other) -> other.length() - one.length());
        String rest = NO_SENTENCE.matcher(text).replaceAll("");
        for (String sentence : longestFirst) {
            rest = rest.replace(sentence, "");
        }
        return rest.trim();
    }
}
