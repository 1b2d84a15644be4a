import java.io.IOException;
import java.nio.file.Files;
import java.nio.file.Path;
import java.util.ArrayList;
import java.util.BitSet;
import java.util.List;
import java.util.Map;
import java.util.TreeMap;
import java.util.regex.Matcher;
import java.util.regex.Pattern;

/** The sentences of ../shared/DOC.md, the terms (and how long an object is good for) as promise 0, and which some test has said. */
final class Document {
    static final int TERMS = 0;
    private final Map<Integer, String> texts = new TreeMap<>();
    private final Map<Integer, BitSet> said = new TreeMap<>();

    Document() throws IOException {
        String all = Files.readString(Path.of("../shared/DOC.md")).replaceAll("\\s+", " ");
        Matcher terms = Pattern.compile("(An object is used .*?) ## The public face .*? ## Terms (.*?) Ahead of the calls").matcher(all);
        if (terms.find()) {
            texts.put(TERMS, terms.group(1) + " " + terms.group(2));
        }
        Matcher promises = Pattern.compile("## Promise (\\d+): .*? `[^`]*`: (.*?) (?=## )").matcher(all);
        while (promises.find()) {
            texts.put(Integer.parseInt(promises.group(1)), promises.group(2));
        }
        for (int promise : texts.keySet()) {
            said.put(promise, new BitSet());
        }
    }

    /** Whether the promise has the sentence, which is marked as said wherever it stands there. */
    boolean has(int promise, String sentence) {
        String text = texts.getOrDefault(promise, "");
        int at = text.indexOf(sentence);
        boolean found = at >= 0;
        while (at >= 0) {
            said.get(promise).set(at, at + sentence.length());
            at = text.indexOf(sentence, at + 1);
        }
        return found;
    }

    int countPromises() {
        return texts.size() - 1;
    }

    /** What no test has said, with the promise's number ahead of it. */
    List<String> leftOut() {
        List<String> left = new ArrayList<>();
        for (Map.Entry<Integer, String> entry : texts.entrySet()) {
            StringBuilder rest = new StringBuilder();
            String text = entry.getValue();
            for (int at = 0; at < text.length(); at++) {
                rest.append(said.get(entry.getKey()).get(at) ? ' ' : text.charAt(at));
            }
            String words = rest.toString().replaceAll("```(text)?|\\d\\. |\\s+", " ").trim();
            if (!words.isEmpty()) {
                left.add(entry.getKey() + ": " + words);
            }
        }
        return left;
    }
}
