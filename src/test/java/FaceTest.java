import java.io.IOException;
import java.lang.reflect.Constructor;
import java.lang.reflect.Field;
import java.lang.reflect.Method;
import java.lang.reflect.Modifier;
import java.nio.charset.StandardCharsets;
import java.nio.file.Files;
import java.nio.file.Path;
import java.util.Arrays;
import java.util.HashSet;
import java.util.Set;
import java.util.TreeSet;

/** The public face is the document's and no other; and the rules of LANGUAGE.md that can be read off hold. */
public final class FaceTest {
    private static final Check CHECK = new Check();
    private static final String[] FACE = {
        "int part(int, int)", "int clear(int)", "int copy(int, int)", "int sheet(int, int)", "int hook(int, int, int)", "int next(int)",
        "int undo()", "int law(int, int, int, int, int, int)", "int clash(int, int)", "long count(int, int)", "long rank(int, int)",
        "int tell(int, int, long, int)", "int lead(int, int, int, int)", "int back(int, int, int, int)", "int core(int, int, int)",
        "int quotient(int, int, int, int)", "int join(int, int, int)", "int peel(int, int)", "long fillings(int)",
        "int filling(int, long, int)", "long heap(int, int, int, int)", "int one(int)", "int factors(int, int, int, int)",
        "int signs(int, int, int)", "int counts(int, int)", "int combine(int, int, int)", "long series(int, int)", "int same(int, int)",
        "int told(int)"};
    private static final String[] CONSTANTS = {"NONE", "RANGE", "KIND", "FULL"};
    private static final String[] RULED_OUT = {"throw", "try", "catch", "synchronized", "assert", "import", "package", "Exact", "->", "::",
        "Object", "System", "Thread", "Random", "@"};

    public static void main(String[] args) throws IOException {
        methods();
        constants();
        classesInside();
        source();
        CHECK.end();
    }

    private static String form(Method method) {
        StringBuilder text = new StringBuilder(method.getReturnType().getName()).append(' ').append(method.getName()).append('(');
        for (int i = 0; i < method.getParameterCount(); i++) {
            text.append(i > 0 ? ", " : "").append(method.getParameterTypes()[i].getName());
        }
        return text.append(')').toString();
    }

    private static void methods() {
        Set<String> open = new TreeSet<>();
        Set<String> names = new HashSet<>();
        for (Method method : PartitionPress.class.getDeclaredMethods()) {
            if (Modifier.isPrivate(method.getModifiers())) {
                continue;
            }
            open.add(form(method));
            names.add(method.getName());
            CHECK.holds("public, not static: " + method, Modifier.isPublic(method.getModifiers()) && !Modifier.isStatic(method.getModifiers()));
        }
        CHECK.holds("methods " + open, open.equals(new TreeSet<>(Arrays.asList(FACE))));
        for (Class<?> each : classes()) {
            for (Method method : each.getDeclaredMethods()) {
                boolean own = each != PartitionPress.class || Modifier.isPrivate(method.getModifiers());
                CHECK.holds("a name of the face: " + method, !own || !names.contains(method.getName()));
                CHECK.holds("seven parameters: " + method, method.getParameterCount() <= 7);
            }
        }
        Constructor<?>[] constructors = PartitionPress.class.getDeclaredConstructors();
        CHECK.holds("constructor", constructors.length == 1 && constructors[0].getParameterCount() == 0
            && Modifier.isPublic(constructors[0].getModifiers()));
        CHECK.holds("final", Modifier.isFinal(PartitionPress.class.getModifiers()));
    }

    private static void constants() {
        for (int i = 0; i < CONSTANTS.length; i++) {
            try {
                CHECK.due(CONSTANTS[i], PartitionPress.class.getField(CONSTANTS[i]).getInt(null), -1 - i);
            } catch (ReflectiveOperationException e) {
                CHECK.holds("constant " + CONSTANTS[i], false);
            }
        }
        CHECK.due("public constants", PartitionPress.class.getFields().length, CONSTANTS.length);
        for (Class<?> each : classes()) {
            int fields = 0;
            for (Field field : each.getDeclaredFields()) {
                int how = field.getModifiers();
                CHECK.holds("private: " + field, Modifier.isPublic(how) || Modifier.isPrivate(how));
                CHECK.holds("no static state: " + field, !Modifier.isStatic(how) || Modifier.isFinal(how) && field.getType() == int.class);
                fields += Modifier.isStatic(how) ? 0 : 1;
            }
            CHECK.holds("twenty fields: " + each, fields <= 20);
        }
    }

    private static Class<?>[] classes() {
        Class<?>[] inside = PartitionPress.class.getDeclaredClasses();
        Class<?>[] all = Arrays.copyOf(inside, inside.length + 1);
        all[inside.length] = PartitionPress.class;
        return all;
    }

    private static void classesInside() {
        CHECK.holds("twelve classes", classes().length <= 12);
        for (Class<?> each : PartitionPress.class.getDeclaredClasses()) {
            CHECK.holds("static and private: " + each, Modifier.isStatic(each.getModifiers()) && Modifier.isPrivate(each.getModifiers()));
        }
    }

    private static void source() throws IOException {
        String text = Files.readString(Path.of("src/main/java/PartitionPress.java"), StandardCharsets.UTF_8);
        for (int i = 0; i < text.length(); i++) {
            CHECK.holds("a character above 255", text.charAt(i) <= 255);
        }
        String code = text.replaceAll("(?s)/\\*.*?\\*/", "").replaceAll("//[^\n]*", "");
        for (String word : RULED_OUT) {
            boolean letters = Character.isLetter(word.charAt(0));
            String sought = letters ? "(?s).*\\b" + word + "\\b.*" : "(?s).*" + java.util.regex.Pattern.quote(word) + ".*";
            CHECK.holds("ruled out: " + word, !code.matches(sought));
        }
        int lines = 0;
        for (String line : code.split("\n")) {
            lines = line.matches("\\s*(public|private|static|void|int|long|boolean|Sum).*\\) \\{") ? 0 : lines + 1;
            CHECK.holds("sixty lines: " + line, lines < 60 || line.isBlank());
        }
    }
}
