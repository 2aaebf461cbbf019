import java.lang.reflect.InvocationTargetException;
import java.lang.reflect.Method;
import java.util.ArrayList;
import java.util.Comparator;
import java.util.List;

/** Runs the tests of single sentences: the static methods of a class that bear a Sentence. */
final class Sentences {
    private Sentences() {
    }

    static List<Method> of(Class<?> tests) {
        List<Method> found = new ArrayList<>();
        for (Method method : tests.getDeclaredMethods()) {
            if (method.isAnnotationPresent(Sentence.class)) {
                found.add(method);
            }
        }
        found.sort(Comparator.comparingInt(Sentences::promise).thenComparing(Method::getName));
        return found;
    }

    private static int promise(Method method) {
        String digits = method.getAnnotation(Sentence.class).section().replaceAll("\\D", "");
        return digits.isEmpty() ? 0 : Integer.parseInt(digits);
    }

    static void run(Class<?> tests) {
        Check check = new Check();
        List<Method> found = of(tests);
        for (Method method : found) {
            Sentence sentence = method.getAnnotation(Sentence.class);
            check.under(sentence.section() + ", \"" + sentence.words() + "\" (" + method.getName() + ")");
            int asked = check.asked();
            runOne(method, check);
            check.holds("something is asked", check.asked() > asked);
        }
        System.out.println(found.size() + " sentences");
        check.end();
    }

    private static void runOne(Method method, Check check) {
        try {
            method.setAccessible(true);
            method.invoke(null, check);
        } catch (InvocationTargetException e) {
            check.holds("threw " + e.getCause(), false);
        } catch (IllegalAccessException e) {
            check.holds("cannot be run: " + e, false);
        }
    }
}
