import java.io.IOException;
import java.nio.file.Files;
import java.nio.file.Path;
import java.util.ArrayList;
import java.util.BitSet;
import java.util.LinkedHashMap;
import java.util.List;
import java.util.Map;
import java.util.TreeMap;
import java.util.regex.Matcher;
import java.util.regex.Pattern;

/**
 * ../shared/DOC.md: its face, its findings, and its sentences, the terms (and how long an object is good for) as
 * promise 0, and which of them some test has said.
 */
final class Document {
    static final int TERMS = 0;
    private final String face;
    private final String all;
    private final Map<Integer, String> texts = new TreeMap<>();
    private final Map<Integer, BitSet> said = new TreeMap<>();

    Document() throws IOException {
        String written = Files.readString(Path.of("../shared/DOC.md"));
        face = firstGroup("(?s)```java\n(.*?)```", written);
        all = written.replaceAll("\\s+", " ");
        Matcher terms = Pattern.compile("(An object is used .*?) ## The public face .*? ## Terms (.*?) Ahead of the calls").matcher(all);
        if (terms.find()) {
            texts.put(TERMS, terms.group(1) + " " + terms.group(2));
        }
        Matcher promises = Pattern.compile("## Promise (\\d+): .*? `[^`]*`: (.*?) (?=## )").matcher(all);
        while (promises.find()) {
            texts.put(Integer.parseInt(promises.group(1)), promises.group(2));
        }
        for (int promise : texts.keySet()) {
            said.put(promise, new BitSet());
        }
    }

    private static String firstGroup(String pattern, String text) {
        Matcher m = Pattern.compile(pattern).matcher(text);
        return m.find() ? m.group(1) : "";
    }

    /** What it says that the class is: its first sentence. */
    String whatItIs() {
        return firstGroup("## What it is (.*?) An object is used", all);
    }

    int mostCalls() {
        return Integer.parseInt(firstGroup("is used for at most (\\d+) calls", all));
    }

    /** The calls of the face in their order, as "put(int row, int column, int v)". */
    List<String> face() {
        List<String> calls = new ArrayList<>();
        Matcher m = Pattern.compile("public int (\\w+\\([^)]*\\));").matcher(face);
        while (m.find()) {
            calls.add(m.group(1));
        }
        return calls;
    }

    /** For each of the face's headings, as "tables", the names of the calls behind it. */
    Map<String, List<String>> headings() {
        Map<String, List<String>> names = new LinkedHashMap<>();
        Matcher m = Pattern.compile("Ahead of the calls ([^.]*?) the interface says: ---- (.*?)\\.").matcher(all);
        while (m.find()) {
            names.put(m.group(2), List.of(m.group(1).replace("`", "").split(", ")));
        }
        return names;
    }

    Map<String, Integer> findings() {
        Map<String, Integer> numbers = new LinkedHashMap<>();
        Matcher m = Pattern.compile("([A-Z_]+) (-\\d)").matcher(firstGroup("FINDINGS are the answers below 0: (.*?)\\.", all));
        while (m.find()) {
            numbers.put(m.group(1), Integer.parseInt(m.group(2)));
        }
        return numbers;
    }

    /** The findings of a promise in the order in which they are asked: each stands ahead in a sentence. */
    List<String> findingsOf(int promise) {
        List<String> asked = new ArrayList<>();
        String names = String.join("|", findings().keySet());
        Matcher m = Pattern.compile("(?<=\\. |\\.\\) )(" + names + ")(?=[:.]| as of)").matcher(texts.getOrDefault(promise, ""));
        while (m.find()) {
            asked.add(m.group(1));
        }
        return asked;
    }

    /** Whether the promise has the sentence, which is marked as said wherever it stands there. */
    boolean has(int promise, String sentence) {
        String text = texts.getOrDefault(promise, "");
        int at = text.indexOf(sentence);
        boolean found = at >= 0;
        while (at >= 0) {
            said.get(promise).set(at, at + sentence.length());
            at = text.indexOf(sentence, at + 1);
        }
        return found;
    }

    int countPromises() {
        return texts.size() - 1;
    }

    /** What no test has said, with the promise's number ahead of it. */
    List<String> leftOut() {
        List<String> left = new ArrayList<>();
        for (Map.Entry<Integer, String> entry : texts.entrySet()) {
            StringBuilder rest = new StringBuilder();
            String text = entry.getValue();
            for (int at = 0; at < text.length(); at++) {
                rest.append(said.get(entry.getKey()).get(at) ? ' ' : text.charAt(at));
            }
            String words = rest.toString().replaceAll("```(text)?|\\d\\. |\\s+", " ").trim();
            if (!words.isEmpty()) {
                left.add(entry.getKey() + ": " + words);
            }
        }
        return left;
    }
}
