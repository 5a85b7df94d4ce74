import java.io.IOException;
import java.nio.file.Files;
import java.nio.file.Path;
import java.util.ArrayList;
import java.util.LinkedHashMap;
import java.util.List;
import java.util.Map;
import java.util.regex.Matcher;
import java.util.regex.Pattern;

/** What stands under each head of a document: "Terms", "Promise 2", .. or "Rule 7" for a line "7. ..". */
final class Document {
    private static final Pattern HEAD = Pattern.compile("#+ (Promise \\d+|[^:]+).*");
    // Up to a "." or ";" with a blank behind it, or to the end of the line; the marks of a list are no words.
    private static final Pattern CLAUSE = Pattern.compile("(?<=^|[.;] |^- )[^\\s-][^\\n]*?([.;](?= )|$)", Pattern.MULTILINE);
    private static final Pattern RULE = Pattern.compile("(\\d+)\\. .*");

    private final Map<String, StringBuilder> texts = new LinkedHashMap<>();

    private Document(List<String> lines) {
        StringBuilder text = new StringBuilder();
        for (String line : lines) {
            Matcher head = HEAD.matcher(line);
            Matcher rule = RULE.matcher(line);
            if (head.matches()) {
                text = texts.computeIfAbsent(head.group(1), h -> new StringBuilder());
                continue;
            }
            if (rule.matches()) {
                text = texts.computeIfAbsent("Rule " + rule.group(1), h -> new StringBuilder());
            }
            text.append(line).append('\n');
        }
    }

    static Document read(String file) throws IOException {
        return new Document(Files.readAllLines(Path.of(file)));
    }

    List<String> heads() {
        return List.copyOf(texts.keySet());
    }

    String under(String head) {
        return texts.containsKey(head) ? texts.get(head).toString() : "";
    }

    /** A sentence, or a part of one up to a ";", and where it begins in what stands under its head. */
    record Clause(int start, String words) {
    }

    List<Clause> clauses(String head) {
        List<Clause> clauses = new ArrayList<>();
        Matcher matcher = CLAUSE.matcher(under(head));
        while (matcher.find()) {
            clauses.add(new Clause(matcher.start(), matcher.group()));
        }
        return clauses;
    }
}
