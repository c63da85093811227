import java.lang.reflect.Method;
import java.nio.file.Files;
import java.nio.file.Path;
import java.util.ArrayList;
import java.util.List;
import java.util.TreeMap;
import java.util.regex.Matcher;
import java.util.regex.Pattern;

/**
 * Whether the tests of the edges try all that the document says: the words that a test bears must stand in its promise or in
 * the Terms, and no word of the promises and of the Terms may be left that none bears.
 */
public final class SentencesTest {
    private static final Path DOCUMENT = Path.of("../shared/DOC.md");

    private final TreeMap<Integer, String> texts = new TreeMap<>();
    private final TreeMap<Integer, boolean[]> borne = new TreeMap<>();
    private final List<String> complaints = new ArrayList<>();

    public static void main(String[] args) throws Exception {
        if (!Files.exists(DOCUMENT)) {
            System.out.println("there is no " + DOCUMENT + " to compare with");
            return;
        }
        SentencesTest test = new SentencesTest();
        test.split(Files.readString(DOCUMENT));
        int tests = 0;
        for (Class<?> edges : Edges.TESTS) {
            for (Method m : Edges.testsOf(edges)) {
                test.bear(m);
                tests++;
            }
        }
        test.lookForTheRest();
        for (String complaint : test.complaints) System.out.println(complaint);
        System.out.println(tests + " tests bear words of the document, " + test.complaints.size() + " complaints");
        if (!test.complaints.isEmpty()) System.exit(1);
    }

    /** The Terms are number 0, the promises bear theirs; of each promise what follows its signature. */
    private void split(String document) {
        int terms = document.indexOf("## Terms");
        int calls = document.indexOf("Ahead of the calls");
        add(0, document.substring(terms + "## Terms".length(), calls).replaceAll("=+ [0-9]", " ").replaceAll("```(text)?", " "));
        Matcher m = Pattern.compile("## Promise ([0-9]+):[^\n]*\\s+`[^`]*`:(.*?)(?=\n## )", Pattern.DOTALL).matcher(document);
        while (m.find()) add(Integer.parseInt(m.group(1)), m.group(2));
        if (texts.size() != 57) complaints.add("there are " + (texts.size() - 1) + " promises");
    }

    private void add(int number, String text) {
        String plain = text.replaceAll("\\s+", " ");
        texts.put(number, plain);
        borne.put(number, new boolean[plain.length()]);
    }

    private void bear(Method test) {
        Says says = test.getAnnotation(Says.class);
        int promise = Edges.promiseOf(test);
        if (says == null || !texts.containsKey(promise)) {
            complaints.add(test.getName() + " bears no words of a promise");
            return;
        }
        for (String words : says.value()) {
            if (!mark(promise, words) && !mark(0, words)) complaints.add(test.getName() + ": nowhere stands: " + words);
        }
    }

    private boolean mark(int number, String words) {
        String text = texts.get(number);
        boolean found = false;
        for (int at = text.indexOf(words); at >= 0; at = text.indexOf(words, at + 1)) {
            found = true;
            for (int i = 0; i < words.length(); i++) borne.get(number)[at + i] = true;
        }
        return found;
    }

    private void lookForTheRest() {
        for (int number : texts.keySet()) {
            Matcher word = Pattern.compile("[A-Za-z0-9]+").matcher(texts.get(number));
            StringBuilder rest = new StringBuilder();
            int last = -1;
            while (word.find()) {
                if (borne.get(number)[word.start()]) continue;
                if (last >= 0 && word.start() - last > 3) rest.append(" ..");
                rest.append(' ').append(word.group());
                last = word.end();
            }
            String where = number == 0 ? "the Terms" : "promise " + number;
            if (rest.length() > 0) complaints.add(where + ": no test bears:" + rest);
        }
    }
}
