import java.io.IOException;
import java.lang.reflect.Array;
import java.lang.reflect.Field;
import java.lang.reflect.Method;
import java.lang.reflect.Modifier;
import java.nio.file.Files;
import java.nio.file.Path;
import java.util.Map;
import java.util.TreeMap;

/** The public face is the document's and no more; and an object takes little of the room that all share. */
public final class FaceTest {
    private static final Due DUE = new Due("FaceTest");
    private static final Path DOCUMENT = Path.of("../shared/DOC.md");
    private static final Map<String, Integer> CONSTANTS = Map.of(
            "NONE", -6, "UNKNOWN", -1, "OUTSIDE", -2, "STATE", -3, "FULL", -4, "NO", -5);
    /** The methods, with how many numbers they take. */
    private static final Map<String, Integer> METHODS = new TreeMap<>();

    static {
        for (String none : new String[] {"wipe", "learn", "line", "pieces", "ways"}) {
            METHODS.put(none, 0);
        }
        for (String one : new String[] {"say", "fault", "forget", "sure", "image", "restore", "told"}) {
            METHODS.put(one, 1);
        }
        for (String two : new String[] {"word", "rule", "piece", "cutting", "sign"}) {
            METHODS.put(two, 2);
        }
        METHODS.put("join", 3);
    }

    public static void main(String[] args) throws IllegalAccessException, IOException {
        DUE.is("the class's modifiers", CutLetters.class.getModifiers(), Modifier.PUBLIC | Modifier.FINAL);
        DUE.is("constructors", CutLetters.class.getDeclaredConstructors().length, 1);
        DUE.is("public constructors", CutLetters.class.getConstructors().length, 1);
        constants();
        methods();
        insideClasses();
        documentsWords();
        room();
        DUE.end();
    }

    /** Each line of the document's face stands in the class, with the same names, in the same order. */
    private static void documentsWords() throws IOException {
        if (!Files.exists(DOCUMENT)) {
            System.out.println("FaceTest: the document is not there, so the face can not be held against it");
            return;
        }
        String document = Files.readString(DOCUMENT);
        int start = document.indexOf("```java\n") + 8;
        String face = document.substring(start, document.indexOf("```", start));
        StringBuilder mine = new StringBuilder();
        for (String line : Files.readString(Path.of("src/main/java/CutLetters.java")).split("\n")) {
            if (line.contains("public ")) {
                mine.append(line.startsWith("    ") ? line.replace(" {", ";") : line).append('\n');
            }
        }
        DUE.same("the face", mine.append("}\n").toString(), face);
    }

    private static void constants() throws IllegalAccessException {
        int found = 0;
        for (Field field : CutLetters.class.getDeclaredFields()) {
            if (!Modifier.isPrivate(field.getModifiers())) {
                found++;
                DUE.holds("a constant of the document: " + field, CONSTANTS.containsKey(field.getName()));
                DUE.is(field.getName(), field.getInt(null), CONSTANTS.getOrDefault(field.getName(), 0));
            }
            DUE.holds("a static field is final: " + field,
                    !Modifier.isStatic(field.getModifiers()) || Modifier.isFinal(field.getModifiers()));
        }
        DUE.is("constants", found, CONSTANTS.size());
    }

    private static void methods() {
        int found = 0;
        for (Method method : CutLetters.class.getDeclaredMethods()) {
            boolean named = METHODS.containsKey(method.getName());
            DUE.holds("public, just if it is the document's: " + method,
                    named ? Modifier.isPublic(method.getModifiers()) : Modifier.isPrivate(method.getModifiers()));
            if (named) {
                found++;
                DUE.is("numbers of " + method, method.getParameterCount(), METHODS.get(method.getName()));
                DUE.holds("answers an int: " + method, method.getReturnType() == int.class);
            }
        }
        DUE.is("methods", found, METHODS.size());
    }

    private static void insideClasses() {
        for (Class<?> inside : CutLetters.class.getDeclaredClasses()) {
            int modifiers = inside.getModifiers();
            DUE.holds("static, and not to be seen outside: " + inside,
                    Modifier.isStatic(modifiers) && !Modifier.isPublic(modifiers) && !Modifier.isProtected(modifiers));
            DUE.holds("no more than twenty fields: " + inside, inside.getDeclaredFields().length <= 25);
        }
        DUE.holds("no more than twelve classes", CutLetters.class.getDeclaredClasses().length < 12);
    }

    /** If every one of 512 calls made a new object, they would all have to fit into 7.3 million. */
    private static void room() throws IllegalAccessException {
        CutLetters x = new CutLetters();
        x.image(0);
        x.image(1);
        long size = size(x, 0);
        DUE.holds("fields and elements of one object: " + size, size < 7300000 / 512);
    }

    private static long size(Object object, int depth) throws IllegalAccessException {
        if (object == null || depth > 5) {
            return 0;
        }
        long size = 0;
        if (object.getClass().isArray()) {
            size += Array.getLength(object);
            for (int i = 0; object instanceof Object[] && i < Array.getLength(object); i++) {
                size += size(Array.get(object, i), depth + 1);
            }
            return size;
        }
        for (Field field : object.getClass().getDeclaredFields()) {
            if (!Modifier.isStatic(field.getModifiers())) {
                field.setAccessible(true);
                size += 1 + (field.getType().isPrimitive() ? 0 : size(field.get(object), depth + 1));
            }
        }
        return size;
    }
}
