import java.io.IOException;
import java.lang.reflect.InvocationTargetException;
import java.lang.reflect.Method;
import java.lang.reflect.Modifier;
import java.nio.charset.StandardCharsets;
import java.nio.file.Files;
import java.nio.file.Path;
import java.util.Arrays;
import java.util.Map;
import java.util.Set;
import java.util.TreeMap;
import java.util.TreeSet;
import java.util.regex.Matcher;
import java.util.regex.Pattern;

/** The calls that README.md shows answer as it says there; it shows each call and each constant of the face. */
public final class ReadmeTest {
    private static final Check CHECK = new Check();
    private static final String MADE = "PartitionPress press = new PartitionPress();";
    private static final Pattern EXAMPLES = Pattern.compile("(?s)```java\n(.*?)```");
    private static final Pattern SHOWN = Pattern.compile("press\\.(\\w+)\\(([-\\d, ]*)\\); +// (-?\\d+|[A-Z]+)(: .*)?");
    private static final Pattern SHEET = Pattern.compile(": sheet (\\d) is (empty|\\d+(?: \\+ \\d+)*)$");
    private static final Pattern SERIES = Pattern.compile(": series (\\d) is (-?\\d+(?:, -?\\d+)*)$");
    private static final Pattern ROW = Pattern.compile("(?m)^\\| `(\\w+)\\(([^)]*)\\)` \\|");
    private static final Pattern CONSTANT = Pattern.compile("(?m)^\\| `([A-Z]+)` \\| (-\\d+) \\|");
    private static final Pattern LONGS = Pattern.compile("\\(`int`; ([^)]*) answer\\s+`long`\\)");

    private static final Map<String, Method> FACE = new TreeMap<>();
    private static final Set<String> CALLS = new TreeSet<>();
    private static final Set<String> ANSWERS = new TreeSet<>();

    private ReadmeTest() {
    }

    public static void main(String[] args) throws IOException, ReflectiveOperationException {
        for (Method method : PartitionPress.class.getDeclaredMethods()) {
            if (Modifier.isPublic(method.getModifiers())) {
                FACE.put(method.getName(), method);
            }
        }
        String text = Files.readString(Path.of("README.md"), StandardCharsets.UTF_8);
        for (Matcher found = EXAMPLES.matcher(text); found.find();) {
            example(found.group(1).split("\n"));
        }
        CHECK.holds("all calls are shown, but " + missing(CALLS), CALLS.equals(FACE.keySet()));
        constants(text);
        rows(text);
        longs(text);
        CHECK.end();
    }

    private static Set<String> missing(Set<String> shown) {
        Set<String> left = new TreeSet<>(FACE.keySet());
        left.removeAll(shown);
        return left;
    }

    private static void example(String[] lines) throws ReflectiveOperationException {
        CHECK.holds("an example begins with a new object: " + lines[0], lines[0].equals(MADE));
        PartitionPress press = new PartitionPress();
        for (String line : Arrays.copyOfRange(lines, 1, lines.length)) {
            Matcher shown = SHOWN.matcher(line);
            boolean form = shown.matches() && FACE.containsKey(shown.group(1));
            CHECK.holds("a call and its answer: " + line, form);
            if (form) {
                CALLS.add(shown.group(1));
                ANSWERS.add(shown.group(3));
                CHECK.due(line, call(press, shown.group(1), shown.group(2)), number(shown.group(3)));
                told(press, line, shown.group(4) == null ? "" : shown.group(4));
            }
        }
    }

    private static long call(PartitionPress press, String name, String list) throws IllegalAccessException {
        String[] words = list.isEmpty() ? new String[0] : list.split(", ");
        Method method = FACE.get(name);
        Object[] numbers = new Object[words.length];
        for (int i = 0; i < words.length && i < method.getParameterCount(); i++) {
            long number = Long.parseLong(words[i]);
            numbers[i] = method.getParameterTypes()[i] == long.class ? (Object) number : (Object) (int) number;
        }
        try {
            return ((Number) method.invoke(press, numbers)).longValue();
        } catch (InvocationTargetException e) {
            CHECK.holds(name + "(" + list + ") threw " + e.getCause(), false);
            return 0;
        }
    }

    private static long number(String answer) throws ReflectiveOperationException {
        return Character.isLetter(answer.charAt(0)) ? PartitionPress.class.getField(answer).getInt(null) : Long.parseLong(answer);
    }

    /** What is said of a SHEET or a SERIES behind the answer holds too. */
    private static void told(PartitionPress press, String line, String words) {
        Matcher sheet = SHEET.matcher(words);
        Matcher series = SERIES.matcher(words);
        if (sheet.matches()) {
            int s = Integer.parseInt(sheet.group(1));
            String[] parts = sheet.group(2).equals("empty") ? new String[0] : sheet.group(2).split(" \\+ ");
            CHECK.due(line, Sums.read(press, s), Arrays.stream(parts).mapToInt(Integer::parseInt).toArray());
        } else if (series.matches()) {
            String[] numbers = series.group(2).split(", ");
            for (int i = 0; i < numbers.length; i++) {
                CHECK.due(line + " at place " + i, press.series(Integer.parseInt(series.group(1)), i), Long.parseLong(numbers[i]));
            }
        } else {
            CHECK.holds("words that are looked up: " + line, !words.matches(": (sheet|series) \\d is .*"));
        }
    }

    private static void constants(String text) throws ReflectiveOperationException {
        Set<String> told = new TreeSet<>();
        for (Matcher found = CONSTANT.matcher(text); found.find();) {
            told.add(found.group(1));
            CHECK.due(found.group(), number(found.group(1)), Long.parseLong(found.group(2)));
        }
        CHECK.due("constants", told.size(), PartitionPress.class.getFields().length);
        CHECK.holds("each of them is shown as an answer: " + ANSWERS, ANSWERS.containsAll(told));
    }

    private static void rows(String text) {
        Set<String> told = new TreeSet<>();
        for (Matcher found = ROW.matcher(text); found.find();) {
            String name = found.group(1);
            CHECK.holds("told once: " + name, told.add(name));
            int many = found.group(2).isEmpty() ? 0 : found.group(2).split(", ").length;
            CHECK.holds("of the face: " + name, FACE.containsKey(name));
            CHECK.due("how many numbers it takes: " + name, many, FACE.containsKey(name) ? FACE.get(name).getParameterCount() : -1);
        }
        CHECK.holds("all calls are told of, but " + missing(told), told.equals(FACE.keySet()));
    }

    private static void longs(String text) {
        Set<String> want = new TreeSet<>();
        for (Method method : FACE.values()) {
            if (method.getReturnType() == long.class) {
                want.add(method.getName());
            }
        }
        Matcher found = LONGS.matcher(text);
        Set<String> told = new TreeSet<>();
        if (found.find()) {
            told.addAll(Arrays.asList(found.group(1).replace("`", "").split(",\\s+|\\s+and\\s+")));
        }
        CHECK.holds("calls that answer long: " + told, told.equals(want));
    }
}
