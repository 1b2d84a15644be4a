import java.io.IOException;
import java.lang.reflect.InvocationTargetException;
import java.nio.file.DirectoryStream;
import java.nio.file.Files;
import java.nio.file.Path;
import java.util.ArrayList;
import java.util.List;
import java.util.Map;
import java.util.TreeMap;
import java.util.regex.Matcher;
import java.util.regex.Pattern;

/** README.md: its examples answer what it says, and its calls and findings are those of the document. */
public final class ReadmeTest {
    private static final Pattern MAKING = Pattern.compile("TalkBench (\\w+) = new TalkBench\\(\\);");
    private static final Pattern CALL = Pattern.compile("(\\w+)\\.(\\w+)\\(([^()]*)\\); +// (-?\\d+)(?:: .+)?");

    private final Document document = new Document();
    private final String readme = Files.readString(Path.of("README.md"));
    private final Map<String, Integer> played = new TreeMap<>();
    private int wrong = 0;

    private ReadmeTest() throws IOException {
    }

    public static void main(String[] args) throws IOException {
        ReadmeTest test = new ReadmeTest();
        test.examples();
        test.calls();
        test.findings();
        test.use();
        test.tests();
        System.out.println(test.wrong == 0 ? "README.md says what is" : test.wrong + " faults of README.md");
        if (test.wrong != 0) {
            System.exit(1);
        }
    }

    private void must(boolean holds, String what) {
        if (!holds) {
            wrong++;
            System.out.println("README.md: " + what);
        }
    }

    private void examples() {
        Matcher blocks = Pattern.compile("(?s)```java\n(.*?)```").matcher(readme);
        while (blocks.find()) {
            playExample(blocks.group(1).split("\n"));
        }
        for (String call : document.face()) {
            must(played.containsKey(nameOf(call)), "no example has " + call);
        }
    }

    private void playExample(String[] lines) {
        Matcher making = MAKING.matcher(lines[0]);
        if (!making.matches()) {
            must(false, "an example begins without an object: " + lines[0]);
            return;
        }
        TalkBench bench = new TalkBench();
        must(lines.length - 1 <= document.mostCalls(), "an example of too many calls: " + lines[1]);
        for (int i = 1; i < lines.length; i++) {
            Matcher call = CALL.matcher(lines[i]);
            if (call.matches() && call.group(1).equals(making.group(1))) {
                playCall(bench, call);
            } else {
                must(false, "no call with its answer: " + lines[i]);
            }
        }
    }

    private void playCall(TalkBench bench, Matcher call) {
        List<Class<?>> types = new ArrayList<>();
        List<Object> values = new ArrayList<>();
        for (String word : call.group(3).isEmpty() ? new String[0] : call.group(3).split(", ")) {
            boolean truth = word.equals("true") || word.equals("false");
            types.add(truth ? boolean.class : int.class);
            values.add(truth ? (Object) Boolean.valueOf(word) : (Object) Integer.valueOf(word));
        }
        played.merge(call.group(2), 1, Integer::sum);
        try {
            Object got = TalkBench.class.getMethod(call.group(2), types.toArray(new Class<?>[0])).invoke(bench, values.toArray());
            must(got.equals(Integer.valueOf(call.group(4))), call.group() + " (it answered " + got + ")");
        } catch (NoSuchMethodException | IllegalAccessException | InvocationTargetException e) {
            must(false, call.group() + " (" + e + ")");
        }
    }

    private static String nameOf(String call) {
        return call.substring(0, call.indexOf('('));
    }

    /** Each call stands once, in the document's order and behind its heading, with its findings in their order. */
    private void calls() {
        List<String> rows = new ArrayList<>();
        Matcher m = Pattern.compile("(?m)^(?:### (.*)|\\| `(\\w+\\(.*?\\))` \\| .* \\| (.*) \\|)$").matcher(readme);
        String heading = "";
        while (m.find()) {
            if (m.group(1) != null) {
                heading = m.group(1);
            } else {
                rows.add(m.group(2));
                checkRow(m.group(2), heading, m.group(3));
            }
        }
        must(rows.equals(document.face()) && rows.size() == 34, "the calls are others: " + rows);
    }

    private void checkRow(String call, String heading, String told) {
        must(document.headings().getOrDefault(heading, List.of()).contains(nameOf(call)), call + " stands under " + heading);
        List<String> asked = new ArrayList<>();
        for (String part : told.split("; ")) {
            if (!part.equals("-")) {
                asked.add(part.replaceAll(":.*", ""));
            }
        }
        // Promise 1 is the constructor's.
        List<String> due = document.findingsOf(2 + document.face().indexOf(call));
        must(asked.equals(due), call + " has the findings " + due + ", not " + asked);
    }

    private void findings() {
        Map<String, Integer> told = new TreeMap<>();
        Matcher m = Pattern.compile("(?m)^\\| ([A-Z_]+) \\| (-\\d+) \\| .+ \\|$").matcher(readme);
        while (m.find()) {
            told.put(m.group(1), Integer.valueOf(m.group(2)));
        }
        must(told.equals(new TreeMap<>(document.findings())) && told.size() == 8, "the findings are others: " + told);
    }

    private void use() {
        must(readme.contains("`new TalkBench()`"), "it does not say how an object is made");
        must(readme.contains("at most " + document.mostCalls() + " calls"), "it does not say for how many calls an object is used");
    }

    private void tests() {
        must(readme.contains("`.ci/run`"), "it does not say how the tests are run");
        try (DirectoryStream<Path> files = Files.newDirectoryStream(Path.of("src/test/java"), "*.java")) {
            for (Path file : files) {
                String name = file.getFileName().toString().replace(".java", "");
                must(readme.contains("\n| `" + name + "` | "), "it does not tell of " + name);
            }
        } catch (IOException e) {
            must(false, "the tests cannot be read: " + e);
        }
    }
}
