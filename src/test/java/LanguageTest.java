import java.io.IOException;
import java.nio.file.Files;
import java.nio.file.Path;
import java.util.List;
import java.util.regex.Matcher;
import java.util.regex.Pattern;

/** The rules of ../shared/LANGUAGE.md that can be seen in the text of the class; run from the project's folder. */
public final class LanguageTest {
    private static final Due DUE = new Due("LanguageTest");
    private static final List<String> NEVER = List.of("throw", "throws", "try", "catch", "synchronized", "assert",
            "import", "package", "protected", "double", "float", "Object", "Exception", "yield", "native", "volatile");
    private static final Pattern METHOD = Pattern.compile("(?m)^( +)(?!new |return |else )[\\w\\[\\] ]+\\(([^()]*)\\) \\{$");
    private static final Pattern CONSTRUCTOR = Pattern.compile("(?m)^ +(?:public )?([A-Z]\\w*\\([^)]*\\)) \\{\n([^}]*)\\}");
    private static final List<String> LIBRARY = List.of("System.arraycopy", "Math.min");

    public static void main(String[] args) throws IOException {
        String source = Files.readString(Path.of("src/main/java/CutLetters.java"));
        for (int i = 0; i < source.length(); i++) {
            char sign = source.charAt(i);
            DUE.holds("a plain sign at " + i, sign == '\n' || sign >= 32 && sign < 127);
        }
        String code = source.replaceAll("(?s)/\\*.*?\\*/", "").replaceAll("//[^\n]*", "");
        for (String word : NEVER) {
            DUE.holds("no " + word, !Pattern.compile("\\b" + word + "\\b").matcher(code).find());
        }
        DUE.holds("no lambda", !code.contains("->"));
        DUE.holds("no method reference", !code.contains("::"));
        DUE.holds("no text joined by +", !Pattern.compile("\"\\s*\\+|\\+\\s*\"").matcher(code).find());
        methods(source);
        constructors(code);
        library(code);
        DUE.end();
    }

    /** Rule 12: a constructor hands out nothing of the object that it makes, so it hands over nothing at all. */
    private static void constructors(String code) {
        Matcher constructor = CONSTRUCTOR.matcher(code);
        while (constructor.find()) {
            String body = constructor.group(2);
            DUE.holds("hands out nothing: " + constructor.group(1), !Pattern.compile("\\([^)]").matcher(body).find());
            DUE.holds("calls nothing but new: " + constructor.group(1),
                    !Pattern.compile("\\(").matcher(body.replaceAll("new \\w+\\(", "")).find());
        }
    }

    /** Rule 4: all that is used of the library. */
    private static void library(String code) {
        Matcher used = Pattern.compile("\\b[A-Z]\\w*[a-z]\\w*\\.\\w+").matcher(code);
        while (used.find()) {
            DUE.holds("of the library's: " + used.group(), LIBRARY.contains(used.group()));
        }
    }

    private static void methods(String source) {
        Matcher method = METHOD.matcher(source);
        while (method.find()) {
            String head = method.group().trim();
            if (head.startsWith("if ") || head.startsWith("for ") || head.startsWith("while ")
                    || head.startsWith("switch ")) {
                continue;
            }
            int end = source.indexOf("\n" + method.group(1) + "}", method.end());
            long lines = source.substring(method.start(), end).lines().count();
            DUE.holds("short: " + head + ", " + lines, lines <= 60);
            DUE.holds("at most seven parameters: " + head, method.group(2).split(",").length <= 7);
        }
    }
}
