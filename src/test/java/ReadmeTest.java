import java.io.IOException;
import java.lang.reflect.Method;
import java.lang.reflect.Modifier;
import java.nio.file.Files;
import java.nio.file.Path;
import java.util.regex.Matcher;
import java.util.regex.Pattern;

/** The example of README.md answers as its comments say, and every call is told there. */
public final class ReadmeTest {
    private static final Due DUE = new Due("ReadmeTest");
    private static final Pattern TEXT = Pattern.compile("for \\(char sign : \"([^\"]*)\"\\.toCharArray\\(\\)\\) x\\.say\\(sign\\);");
    private static final Pattern CALL = Pattern.compile("x\\.(\\w+)\\(([-\\d, ]*)\\); +// (?:(-?\\d+)|'(.)').*");

    public static void main(String[] args) throws IOException, ReflectiveOperationException {
        String readme = Files.readString(Path.of("README.md"));
        int start = readme.indexOf("```java\n") + 8;
        int end = readme.indexOf("```", start);
        example(readme.substring(start, end));
        for (Method method : CutLetters.class.getDeclaredMethods()) {
            if (Modifier.isPublic(method.getModifiers())) {
                DUE.holds("told: " + method.getName(), readme.contains("| `" + method.getName() + "("));
            }
        }
        DUE.end();
    }

    private static void example(String lines) throws ReflectiveOperationException {
        CutLetters x = new CutLetters();
        for (String line : lines.split("\n")) {
            Matcher text = TEXT.matcher(line);
            Matcher call = CALL.matcher(line);
            if (text.matches()) {
                text.group(1).chars().forEach(x::say);
            } else if (call.matches()) {
                int due = call.group(3) == null ? call.group(4).charAt(0) : Integer.parseInt(call.group(3));
                DUE.is(line, answer(x, call.group(1), call.group(2)), due);
            } else {
                DUE.same("a line", line, "CutLetters x = new CutLetters();");
            }
        }
    }

    private static int answer(CutLetters x, String name, String numbers) throws ReflectiveOperationException {
        String[] texts = numbers.isEmpty() ? new String[0] : numbers.split(", *");
        Object[] values = new Object[texts.length];
        Class<?>[] types = new Class<?>[texts.length];
        for (int i = 0; i < texts.length; i++) {
            values[i] = Integer.valueOf(texts[i]);
            types[i] = int.class;
        }
        return (Integer) CutLetters.class.getMethod(name, types).invoke(x, values);
    }
}
