import java.io.IOException;
import java.lang.reflect.Constructor;
import java.lang.reflect.Field;
import java.lang.reflect.Method;
import java.lang.reflect.Modifier;
import java.nio.charset.StandardCharsets;
import java.nio.file.Files;
import java.nio.file.Path;
import java.util.ArrayList;
import java.util.Arrays;
import java.util.HashSet;
import java.util.List;
import java.util.Set;
import java.util.TreeSet;
import java.util.regex.Matcher;
import java.util.regex.Pattern;

/** The public face is the document's and no other. */
public final class FaceTest {
    private static final Check CHECK = new Check();
    private static final String[] FACE = {
        "int part(int, int)", "int clear(int)", "int copy(int, int)", "int sheet(int, int)", "int hook(int, int, int)", "int next(int)",
        "int undo()", "int law(int, int, int, int, int, int)", "int clash(int, int)", "long count(int, int)", "long rank(int, int)",
        "int tell(int, int, long, int)", "int lead(int, int, int, int)", "int back(int, int, int, int)", "int core(int, int, int)",
        "int quotient(int, int, int, int)", "int join(int, int, int)", "int peel(int, int)", "long fillings(int)",
        "int filling(int, long, int)", "long heap(int, int, int, int)", "int one(int)", "int factors(int, int, int, int)",
        "int signs(int, int, int)", "int counts(int, int)", "int combine(int, int, int)", "long series(int, int)", "int same(int, int)",
        "int told(int)"};
    private static final String[] CONSTANTS = {"NONE", "RANGE", "KIND", "FULL"};

    public static void main(String[] args) throws IOException {
        methods();
        constants();
        classesInside();
        document();
        CHECK.end();
    }

    private static String form(Method method) {
        StringBuilder text = new StringBuilder(method.getReturnType().getName()).append(' ').append(method.getName()).append('(');
        for (int i = 0; i < method.getParameterCount(); i++) {
            text.append(i > 0 ? ", " : "").append(method.getParameterTypes()[i].getName());
        }
        return text.append(')').toString();
    }

    private static void methods() {
        Set<String> open = new TreeSet<>();
        Set<String> names = new HashSet<>();
        for (Method method : PartitionPress.class.getDeclaredMethods()) {
            if (Modifier.isPrivate(method.getModifiers())) {
                continue;
            }
            open.add(form(method));
            names.add(method.getName());
            CHECK.holds("public, not static: " + method, Modifier.isPublic(method.getModifiers()) && !Modifier.isStatic(method.getModifiers()));
        }
        CHECK.holds("methods " + open, open.equals(new TreeSet<>(Arrays.asList(FACE))));
        for (Class<?> each : classes()) {
            for (Method method : each.getDeclaredMethods()) {
                boolean own = each != PartitionPress.class || Modifier.isPrivate(method.getModifiers());
                CHECK.holds("a name of the face: " + method, !own || !names.contains(method.getName()));
                CHECK.holds("seven parameters: " + method, method.getParameterCount() <= 7);
            }
        }
        Constructor<?>[] constructors = PartitionPress.class.getDeclaredConstructors();
        CHECK.holds("constructor", constructors.length == 1 && constructors[0].getParameterCount() == 0
            && Modifier.isPublic(constructors[0].getModifiers()));
        CHECK.holds("final", Modifier.isFinal(PartitionPress.class.getModifiers()));
    }

    private static void constants() {
        for (int i = 0; i < CONSTANTS.length; i++) {
            try {
                CHECK.due(CONSTANTS[i], PartitionPress.class.getField(CONSTANTS[i]).getInt(null), -1 - i);
            } catch (ReflectiveOperationException e) {
                CHECK.holds("constant " + CONSTANTS[i], false);
            }
        }
        CHECK.due("public constants", PartitionPress.class.getFields().length, CONSTANTS.length);
        for (Class<?> each : classes()) {
            int fields = 0;
            for (Field field : each.getDeclaredFields()) {
                int how = field.getModifiers();
                CHECK.holds("private: " + field, Modifier.isPublic(how) || Modifier.isPrivate(how));
                CHECK.holds("no static state: " + field, !Modifier.isStatic(how) || Modifier.isFinal(how) && field.getType() == int.class);
                fields += Modifier.isStatic(how) ? 0 : 1;
            }
            CHECK.holds("twenty fields: " + each, fields <= 20);
        }
    }

    private static Class<?>[] classes() {
        Class<?>[] inside = PartitionPress.class.getDeclaredClasses();
        Class<?>[] all = Arrays.copyOf(inside, inside.length + 1);
        all[inside.length] = PartitionPress.class;
        return all;
    }

    private static void classesInside() {
        CHECK.holds("twelve classes", classes().length <= 12);
        for (Class<?> each : PartitionPress.class.getDeclaredClasses()) {
            CHECK.holds("static and private: " + each, Modifier.isStatic(each.getModifiers()) && Modifier.isPrivate(each.getModifiers()));
        }
    }

    /** The lines of the face stand in the source, with the names of their numbers, in the document's order. */
    private static void document() throws IOException {
        Path document = Path.of("../shared/DOC.md");
        if (!Files.exists(document)) {
            System.out.println("no " + document + ": the face is not looked up there");
            return;
        }
        Matcher block = Pattern.compile("(?s)## The public face\\s+```java\n(.*?)```").matcher(Files.readString(document, StandardCharsets.UTF_8));
        CHECK.holds("the face stands in the document", block.find());
        List<String> want = publicLines(block.group(1));
        List<String> got = publicLines(Files.readString(Path.of("src/main/java/PartitionPress.java"), StandardCharsets.UTF_8));
        CHECK.due("public lines", got.size(), want.size());
        for (int i = 0; i < Math.min(got.size(), want.size()); i++) {
            CHECK.holds(got.get(i) + " for " + want.get(i), got.get(i).equals(want.get(i)));
        }
        CHECK.due("the class, constants, constructor and methods", want.size(), 2 + CONSTANTS.length + FACE.length);
    }

    private static List<String> publicLines(String text) {
        List<String> found = new ArrayList<>();
        for (String line : text.split("\n")) {
            if (line.matches("(    )?public .*")) {
                found.add(line.replaceAll(" ?[;{]$", "").trim());
            }
        }
        return found;
    }
}
