import java.io.IOException;
import java.lang.reflect.Method;
import java.nio.charset.StandardCharsets;
import java.nio.file.Files;
import java.nio.file.Path;
import java.util.BitSet;
import java.util.LinkedHashMap;
import java.util.Map;

/** Each test of a sentence quotes words that stand in the document; and no word of the Terms and promises is without a test. */
public final class DocumentTest {
    private static final Check CHECK = new Check();
    private static final Class<?>[] TESTS = {TermsSumsTest.class, TermsWaysTest.class, TermsSeriesTest.class, PromisesSheetsTest.class,
        PromisesLawsTest.class, PromisesWaysTest.class, PromisesSeriesTest.class};
    private static final int PROMISES = 30;

    private DocumentTest() {
    }

    public static void main(String[] args) throws IOException {
        Path document = Path.of("../shared/DOC.md");
        if (!Files.exists(document)) {
            // It is of the tests alone that this asks: the class is not worse without the document at hand.
            System.out.println("no " + document + ": the quotations are not looked up");
            return;
        }
        Map<String, String> sections = sections(Files.readString(document, StandardCharsets.UTF_8));
        Map<String, BitSet> quoted = new LinkedHashMap<>();
        for (String section : sections.keySet()) {
            quoted.put(section, new BitSet());
        }
        for (Class<?> tests : TESTS) {
            for (Method method : Sentences.of(tests)) {
                quote(method, sections, quoted);
            }
        }
        complete("Terms", sections, quoted);
        for (int i = 1; i <= PROMISES; i++) {
            complete("Promise " + i, sections, quoted);
        }
        CHECK.end();
    }

    /** The text of each section, blanks and ends of lines being one blank; without the form of the call ahead of a promise. */
    private static Map<String, String> sections(String document) {
        Map<String, String> found = new LinkedHashMap<>();
        for (String section : document.split("(?m)^## ")) {
            int end = section.indexOf('\n');
            String title = end < 0 ? section : section.substring(0, end);
            String text = end < 0 ? "" : section.substring(end).replaceAll("```(text|java)?", " ").replaceAll("\\s+", " ").trim();
            if (title.startsWith("Promise ")) {
                title = title.replaceAll(":.*", "");
                text = text.replaceFirst("^`[^`]*`: ", "");
            }
            found.put(title, text);
        }
        return found;
    }

    private static void quote(Method method, Map<String, String> sections, Map<String, BitSet> quoted) {
        Sentence sentence = method.getAnnotation(Sentence.class);
        String text = sections.getOrDefault(sentence.section(), "");
        int from = text.indexOf(sentence.words());
        String name = sentence.section() + ", \"" + sentence.words() + "\" (" + method.getName() + ")";
        CHECK.holds(name + " stands in the document", from >= 0);
        CHECK.holds(name + " stands there just once", from == text.lastIndexOf(sentence.words()));
        if (from >= 0) {
            quoted.get(sentence.section()).set(from, from + sentence.words().length());
        }
    }

    private static void complete(String section, Map<String, String> sections, Map<String, BitSet> quoted) {
        CHECK.holds(section + " stands in the document", sections.containsKey(section));
        String text = sections.getOrDefault(section, "");
        StringBuilder left = new StringBuilder();
        for (int i = 0; i < text.length(); i++) {
            left.append(quoted.containsKey(section) && quoted.get(section).get(i) ? ' ' : text.charAt(i));
        }
        String bare = left.toString().replaceAll("\\s+", " ").trim();
        CHECK.holds(section + ": no test has these words: " + bare, !bare.matches(".*[A-Za-z0-9].*"));
    }
}
