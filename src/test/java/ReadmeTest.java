import java.io.File;
import java.io.IOException;
import java.nio.charset.StandardCharsets;
import java.nio.file.Files;
import java.nio.file.Path;
import java.util.ArrayList;
import java.util.Arrays;
import java.util.Comparator;
import java.util.HashSet;
import java.util.List;
import java.util.Set;
import java.util.regex.Matcher;
import java.util.regex.Pattern;
import java.util.stream.Stream;

/** What README.md shows is so: its examples and commands are run, and the document's sentences stand in it. */
public final class ReadmeTest {
    private static final Path README = Path.of("README.md");
    private static final String DOCUMENT = "../shared/DOC.md";
    private static final Path TESTS = Path.of("src/test/java");
    // What tells how the document is laid out, not how the class is used.
    private static final List<String> LEFT_OUT = List.of("Talks, rooms", "Ahead of the calls ");
    private static final Pattern BLOCK = Pattern.compile("^```(\\w+)\\n(.*?)^```$", Pattern.MULTILINE | Pattern.DOTALL);
    private static final Pattern PROGRAM = Pattern.compile("^public final class (\\w+) ");
    private static final Pattern ANSWERED = Pattern.compile("(rooms\\.(\\w+)\\(.*\\)); +// (\\w+)(: .*)?");

    private static final Check check = new Check();

    private record Block(String language, String text) {
        boolean isProgram() {
            return language.equals("java") && PROGRAM.matcher(text).find();
        }

        boolean isExample() {
            return language.equals("java") && !isProgram();
        }
    }

    public static void main(String[] args) throws Exception {
        String readme = Files.readString(README);
        List<Block> blocks = blocksOf(readme);
        sentencesOfTheDocumentStandIn(plain(readme));
        testsAreTold(readme);
        Path work = Files.createTempDirectory("readme");
        try {
            examplesAnswerAsTold(blocks, work);
            commandsPrintAsTold(blocks, work);
        } finally {
            remove(work);
        }
        check.finish();
    }

    private static List<Block> blocksOf(String readme) {
        List<Block> blocks = new ArrayList<>();
        Matcher matcher = BLOCK.matcher(readme);
        while (matcher.find()) {
            blocks.add(new Block(matcher.group(1), matcher.group(2)));
        }
        check.holds("README.md shows a program", blocks.stream().anyMatch(Block::isProgram));
        check.holds("README.md shows examples", blocks.stream().anyMatch(Block::isExample));
        check.holds("README.md shows commands", blocks.stream().anyMatch(b -> b.language().equals("sh")));
        return blocks;
    }

    /** Without the marks of lists and of code, and without what depends on where a line ends. */
    private static String plain(String text) {
        return text.replaceAll("(?m)^ *- ", "").replace("`", "").replaceAll("\\s+", " ").trim();
    }

    private static void sentencesOfTheDocumentStandIn(String readme) throws IOException {
        Document document = Document.read(DOCUMENT);
        check.holds("promise 24 is read", !document.under("Promise 24").isEmpty());
        for (String head : document.heads()) {
            if (head.equals("The public face")) {
                continue;
            }
            if (head.startsWith("Promise ")) {
                document.under(head).lines().forEach(line -> stands(head, line, readme));
            }
            document.clauses(head).forEach(clause -> stands(head, clause.words(), readme));
        }
    }

    private static void stands(String head, String words, String readme) {
        if (LEFT_OUT.stream().noneMatch(words::startsWith)) {
            check.holds("README.md tells \"" + words + "\" of " + head, readme.contains(plain(words)));
        }
    }

    private static void testsAreTold(String readme) throws IOException {
        check.holds(".ci/run is there and can be run", Files.isExecutable(Path.of(".ci/run")));
        check.holds("README.md tells of .ci/run", readme.contains("\n    .ci/run\n"));
        try (Stream<Path> files = Files.list(TESTS)) {
            files.map(file -> file.getFileName().toString()).filter(name -> name.endsWith("Test.java"))
                .map(name -> name.substring(0, name.length() - ".java".length()))
                .forEach(name -> check.holds("README.md tells of " + name, readme.contains("`" + name + "`")));
        }
    }

    /** The lines of all examples, compiled as they stand, with a check round each call that an answer is told for. */
    private static void examplesAnswerAsTold(List<Block> blocks, Path work) throws Exception {
        Set<String> called = new HashSet<>();
        Set<String> answers = new HashSet<>();
        StringBuilder source = new StringBuilder("public final class Examples {\n"
            + "public static void main(String[] args) {\nCheck check = new Check();\n");
        for (Block block : blocks) {
            if (block.isExample()) {
                source.append("{\n");
                block.text().lines().forEach(line -> source.append(checked(line, called, answers)).append('\n'));
                source.append("}\n");
            }
        }
        source.append("check.finish();\n}\n}\n");
        Files.writeString(work.resolve("Examples.java"), source);
        String classes = System.getProperty("java.class.path");
        run(List.of("javac", "-cp", absolute(classes), "-d", "examples", "Examples.java"), work);
        run(List.of("java", "-cp", absolute(classes) + File.pathSeparator + "examples", "Examples"), work);
        eachOfTheFaceIsShown(called, answers);
    }

    private static String checked(String line, Set<String> called, Set<String> answers) {
        Matcher matcher = ANSWERED.matcher(line);
        if (!matcher.matches()) {
            check.holds("an answer is told for " + line, !line.startsWith("rooms."));
            return line;
        }
        called.add(matcher.group(2));
        answers.add(matcher.group(3));
        String want = Character.isDigit(matcher.group(3).charAt(0)) ? matcher.group(3) : "OnlineRooms." + matcher.group(3);
        return "check.due(\"" + matcher.group(1) + " of README.md\", " + matcher.group(1) + ", " + want + ");";
    }

    private static void eachOfTheFaceIsShown(Set<String> called, Set<String> answers) {
        Arrays.stream(OnlineRooms.class.getMethods()).filter(m -> m.getDeclaringClass() == OnlineRooms.class)
            .forEach(m -> check.holds("README.md shows a call of " + m.getName(), called.contains(m.getName())));
        Arrays.stream(OnlineRooms.class.getFields())
            .forEach(f -> check.holds("README.md shows the error " + f.getName(), answers.contains(f.getName())));
    }

    /** Beside nothing but src and the programs of the page, so that what the commands write is not left behind. */
    private static void commandsPrintAsTold(List<Block> blocks, Path work) throws Exception {
        Files.createSymbolicLink(work.resolve("src"), Path.of("src").toAbsolutePath());
        for (Block block : blocks) {
            if (block.isProgram()) {
                Matcher name = PROGRAM.matcher(block.text());
                check.holds("a program has a name", name.find());
                Files.writeString(work.resolve(name.group(1) + ".java"), block.text());
            }
        }
        for (int i = 0; i < blocks.size(); i++) {
            if (blocks.get(i).language().equals("sh")) {
                String printed = run(List.of("sh", "-ec", blocks.get(i).text()), work);
                boolean told = i + 1 < blocks.size() && blocks.get(i + 1).language().equals("text");
                check.holds("what README.md's commands print, which is " + printed,
                    !told || printed.equals(blocks.get(i + 1).text()));
            }
        }
        check.due("outputs that stand behind no command", outputsBehindNoCommand(blocks), 0);
    }

    private static int outputsBehindNoCommand(List<Block> blocks) {
        int outputs = 0;
        for (int i = 0; i < blocks.size(); i++) {
            boolean behind = i > 0 && blocks.get(i - 1).language().equals("sh");
            outputs += blocks.get(i).language().equals("text") && !behind ? 1 : 0;
        }
        return outputs;
    }

    private static String absolute(String classes) {
        return String.join(File.pathSeparator, Arrays.stream(classes.split(File.pathSeparator))
            .map(path -> Path.of(path).toAbsolutePath().toString()).toList());
    }

    /** What a command prints; its exit code is to be 0. What it says of errors is shown, but is no answer of it. */
    private static String run(List<String> command, Path where) throws Exception {
        Process process = new ProcessBuilder(command).directory(where.toFile())
            .redirectError(ProcessBuilder.Redirect.INHERIT).start();
        process.getOutputStream().close();
        String printed = new String(process.getInputStream().readAllBytes(), StandardCharsets.UTF_8);
        boolean well = process.waitFor() == 0;
        check.holds(command + " ends well, but prints " + printed, well);
        return printed;
    }

    private static void remove(Path directory) throws IOException {
        try (Stream<Path> files = Files.walk(directory)) {
            for (Path file : files.sorted(Comparator.reverseOrder()).toList()) {
                Files.delete(file);
            }
        }
    }
}
