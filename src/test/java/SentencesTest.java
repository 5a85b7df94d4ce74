import java.io.IOException;
import java.lang.reflect.Method;
import java.nio.file.Files;
import java.nio.file.Path;
import java.util.ArrayList;
import java.util.HashMap;
import java.util.HashSet;
import java.util.List;
import java.util.Map;
import java.util.Set;
import java.util.stream.Stream;

/** Each sentence of the document has its test: what the tests quote stands there, and no sentence is left out. */
public final class SentencesTest {
    private static final String DOCUMENT = "../shared/DOC.md";
    private static final String LANGUAGE = "../shared/LANGUAGE.md";
    private static final String TESTS = "src/test/java";
    private static final int PROMISES = 24;
    // What names no boundary case, by how it begins; what answers and calls are called is LanguageTest's matter.
    private static final List<String> WITHOUT_A_BOUNDARY = List.of("Rooms for talks: ", "what later calls answer",
        "All numbers are whole numbers", "Talks, rooms", "The settings are (in parentheses", "Ahead of the calls ",
        "`int set(int what, int value)`: Sets a setting.", "`int talkOf(int talk, int what)`: Returns something",
        "`int roomOf(int room, int what)`: Returns something", "`int at(int room, int hour)`: Tells which talk",
        "`int hourOf(int hour, int what)`: Returns something", "`int count(int what)`: Returns a number.",
        "`int fault(int what)`: Tells about", "Returns the number;", "Returns that;", "How the state is held",
        "Use of one object from several threads");

    private static final Check check = new Check();
    private static final Map<String, List<String>> quotedOfHead = new HashMap<>();

    public static void main(String[] args) throws Exception {
        Document document = Document.read(DOCUMENT);
        for (int promise = 1; promise <= PROMISES; promise++) {
            check.holds("promise " + promise + " is in the document", !document.under("Promise " + promise).isEmpty());
        }
        quotationsStandInTheDocuments(document, Document.read(LANGUAGE));
        Set<String> passedOver = new HashSet<>();
        for (String head : document.heads()) {
            boolean[] quoted = quotedCharacters(head, document.under(head));
            for (Document.Clause clause : document.clauses(head)) {
                boolean tested = false;
                for (int i = 0; i < clause.words().length(); i++) {
                    tested |= quoted[clause.start() + i];
                }
                String without = beginningWithout(clause.words());
                passedOver.add(without);
                check.holds("a test for \"" + clause.words() + "\" of " + head,
                    tested ? without.isEmpty() : !without.isEmpty() || head.equals("The public face"));
            }
        }
        for (String beginning : WITHOUT_A_BOUNDARY) {
            check.holds("\"" + beginning + "\" is in the document", passedOver.contains(beginning));
        }
        check.finish();
    }

    private static void quotationsStandInTheDocuments(Document document, Document language) throws Exception {
        Set<String> names = new HashSet<>();
        for (Class<?> tests : testClasses()) {
            for (Method method : Sentences.in(tests)) {
                Sentence sentence = method.getAnnotation(Sentence.class);
                String name = method.getName();
                List<String> ofHead = quotedOfHead.computeIfAbsent(sentence.of(), h -> new ArrayList<>());
                Document from = sentence.of().startsWith("Rule ") ? language : document;
                check.holds(name + " quotes \"" + sentence.words() + "\" of " + sentence.of(),
                    from.under(sentence.of()).contains(sentence.words()));
                check.holds(name + " is for a sentence of its own", !ofHead.contains(sentence.words()));
                check.holds(name + " is a name of its own", names.add(name));
                check.holds(name + " tells its promise or rule", name.startsWith(beginningOfNames(sentence.of())));
                ofHead.add(sentence.words());
            }
        }
    }

    private static List<Class<?>> testClasses() throws IOException, ClassNotFoundException {
        List<Class<?>> classes = new ArrayList<>();
        try (Stream<Path> files = Files.list(Path.of(TESTS))) {
            for (Path file : files.sorted().toList()) {
                String name = file.getFileName().toString();
                if (name.endsWith("Test.java")) {
                    classes.add(Class.forName(name.substring(0, name.length() - ".java".length())));
                }
            }
        }
        return classes;
    }

    private static String beginningOfNames(String head) {
        String[] words = head.split(" ");
        boolean numbered = words[0].equals("Promise") || words[0].equals("Rule");
        return numbered ? String.format("%s%02d", words[0].toLowerCase(), Integer.parseInt(words[1])) : "";
    }

    private static boolean[] quotedCharacters(String head, String text) {
        boolean[] quoted = new boolean[text.length()];
        for (String words : quotedOfHead.getOrDefault(head, List.of())) {
            int from = text.indexOf(words);
            for (int i = from; i >= 0 && i < from + words.length(); i++) {
                quoted[i] = true;
            }
        }
        return quoted;
    }

    private static String beginningWithout(String words) {
        return WITHOUT_A_BOUNDARY.stream().filter(words::startsWith).findFirst().orElse("");
    }
}
