import java.io.IOException;
import java.nio.file.Files;
import java.nio.file.Path;
import java.util.regex.Matcher;
import java.util.regex.Pattern;
import java.util.stream.Stream;

/** README.md: its example answers what it says, its words are those of its texts, and it names every test that there is. */
public final class ReadmeTest {
    private static final Pattern CALL = Pattern.compile("m\\.(\\w+)\\(([^)]*)\\);\\s*// (.*)");
    private static final Pattern STEP = Pattern.compile("`?(v[a-z0-9.]+ [^:`]*)`?(: answers (\\d))?.*");
    private static final Pattern ANSWER = Pattern.compile(".*: (-?\\d+)");

    private ReadmeTest() {
    }

    public static void main(String[] args) throws IOException {
        String readme = Files.readString(Path.of("README.md"));
        examples(readme);
        tests(readme);
        Check.end();
    }

    private static void examples(String readme) {
        Matcher block = Pattern.compile("(?s)```java\n(.*?)```").matcher(readme);
        int calls = 0;
        while (block.find()) {
            StripMachine m = null;
            for (String line : block.group(1).split("\n")) {
                Matcher call = CALL.matcher(line);
                if (line.equals("StripMachine m = new StripMachine();")) {
                    m = new StripMachine();
                } else {
                    Check.due("a call with its comment: " + line, call.matches(), true);
                    call(m, line, call);
                    calls++;
                }
            }
        }
        Check.due("README.md has examples", calls > 0, true);
    }

    private static void call(StripMachine m, String line, Matcher call) {
        String[] texts = call.group(2).split(", ");
        int first = Integer.decode(texts[0]);
        int second = texts.length > 1 && !texts[1].matches("true|false") ? Integer.decode(texts[1]) : 0;
        String comment = call.group(3);
        switch (call.group(1)) {
            case "setX": m.setX(first, second); break;
            case "setV": m.setV(first, second); break;
            case "setWord": m.setWord(first, second); break;
            case "shut": m.shut(first, texts[1].equals("true")); break;
            case "x": answers(line, m.x(first), comment); break;
            case "v": answers(line, m.v(first), comment); break;
            case "word": answers(line, m.word(first), comment); break;
            case "state": answers(line, m.state(first), comment); break;
            case "step": step(m, line, first, comment); break;
            default: Check.due("a known call: " + line, false, true);
        }
    }

    private static void step(StripMachine m, String line, int word, String comment) {
        Matcher text = STEP.matcher(comment);
        Check.due("an instruction's text: " + line, text.matches(), true);
        Check.due(line, word, Words.of(text.group(1)));
        String due = text.group(3);
        Check.due(line, m.step(word), due == null ? 0 : Integer.parseInt(due));
    }

    private static void answers(String line, int got, String comment) {
        Matcher answer = ANSWER.matcher(comment);
        Check.due("an answer: " + line, answer.matches(), true);
        Check.due(line, got, Integer.parseInt(answer.group(1)));
    }

    private static void tests(String readme) throws IOException {
        try (Stream<Path> files = Files.list(Path.of("src", "test", "java"))) {
            files.map(file -> file.getFileName().toString().replace(".java", "")).sorted().forEach(name -> {
                boolean isTest = name.endsWith("Test");
                boolean isNamed = readme.contains(isTest ? "| " + name + " |" : "`" + name + "`");
                Check.due("README.md names " + name, isNamed, true);
            });
        }
        Matcher row = Pattern.compile("\\| (\\w+Test) \\|").matcher(readme);
        while (row.find()) {
            boolean isThere = Files.exists(Path.of("src", "test", "java", row.group(1) + ".java"));
            Check.due("there is a test " + row.group(1), isThere, true);
        }
    }
}
