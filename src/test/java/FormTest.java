import java.io.IOException;
import java.lang.reflect.Constructor;
import java.lang.reflect.Field;
import java.lang.reflect.Method;
import java.lang.reflect.Modifier;
import java.nio.file.Files;
import java.nio.file.Path;
import java.util.ArrayList;
import java.util.List;
import java.util.Map;
import java.util.Set;
import java.util.TreeSet;
import java.util.regex.Matcher;
import java.util.regex.Pattern;

/** The rules of LANGUAGE.md, as far as a reader of the text and of the class can tell them. */
public final class FormTest {
    private static final Pattern HEADING_OR_CALL = Pattern.compile("(?m)^    (?:// ---- (.*)|public int (\\w+\\(.*\\)) \\{)$");
    private static Document document;
    /** The calls of the document's face without their parameters' names. */
    private static final Set<String> FACE = new TreeSet<>();
    private static int wrong = 0;

    private static void must(boolean holds, String what) {
        if (!holds) {
            wrong++;
            System.out.println(what);
        }
    }

    public static void main(String[] args) throws IOException {
        document = new Document();
        for (String call : document.face()) {
            FACE.add(call.replaceAll(" \\w+(?=[,)])", "").replace(" ", ""));
        }
        String text = Files.readString(Path.of("src/main/java/TalkBench.java"));
        face();
        headings(text);
        membersInside();
        text(text);
        System.out.println(wrong == 0 ? "the form is kept" : wrong + " faults of form");
        if (wrong != 0) {
            System.exit(1);
        }
    }

    private static String sign(Method m) {
        List<String> types = new ArrayList<>();
        for (Class<?> type : m.getParameterTypes()) {
            types.add(type.getSimpleName());
        }
        return m.getName() + "(" + String.join(",", types) + ")";
    }

    private static void face() {
        Set<String> visible = new TreeSet<>();
        for (Method m : TalkBench.class.getDeclaredMethods()) {
            if (!Modifier.isPrivate(m.getModifiers())) {
                visible.add(sign(m));
                must(Modifier.isPublic(m.getModifiers()) && !Modifier.isStatic(m.getModifiers()), "not as in the face: " + m);
                must(m.getReturnType() == int.class, "answers no int: " + m);
            }
        }
        must(visible.equals(FACE) && FACE.size() == 34, "the face is another one: " + visible);
        Constructor<?>[] made = TalkBench.class.getDeclaredConstructors();
        must(made.length == 1 && Modifier.isPublic(made[0].getModifiers()) && made[0].getParameterCount() == 0, "the constructor");
        must(Modifier.isFinal(TalkBench.class.getModifiers()), "the class is not final");
        for (Field f : TalkBench.class.getDeclaredFields()) {
            must(Modifier.isPrivate(f.getModifiers()), "a field is not private: " + f);
        }
    }

    /** The calls stand in the document's order, with its names of parameters, each behind its heading. */
    private static void headings(String text) {
        List<String> due = new ArrayList<>();
        Map<String, List<String>> headings = document.headings();
        for (String call : document.face()) {
            String name = call.substring(0, call.indexOf('('));
            headings.forEach((heading, calls) -> {
                if (calls.get(0).equals(name)) {
                    due.add(heading);
                }
            });
            due.add(call);
        }
        List<String> found = new ArrayList<>();
        Matcher m = HEADING_OR_CALL.matcher(text);
        while (m.find()) {
            found.add(m.group(1) == null ? m.group(2) : m.group(1));
        }
        must(found.equals(due) && due.size() == 34 + 6, "headings and calls stand otherwise: " + found);
        List<String> behind = new ArrayList<>();
        headings.values().forEach(behind::addAll);
        must(behind.equals(document.face().stream().map(call -> call.substring(0, call.indexOf('('))).toList()),
            "the document's headings have other calls behind them: " + behind);
        String opening = text.replaceAll("\\s+(\\*(?!/))?\\s*", " ");
        must(opening.contains("/** " + document.whatItIs() + " */ public final class TalkBench {"),
            "the class does not say what it is: " + document.whatItIs());
    }

    private static void membersInside() {
        List<Class<?>> classes = new ArrayList<>(List.of(TalkBench.class.getDeclaredClasses()));
        classes.add(TalkBench.class);
        must(classes.size() <= 12, "too many classes: " + classes.size());
        Set<String> names = new TreeSet<>();
        for (String sign : FACE) {
            names.add(sign.substring(0, sign.indexOf('(')));
        }
        for (Class<?> c : classes) {
            must(c == TalkBench.class || Modifier.isStatic(c.getModifiers()), "not static: " + c);
            int fields = 0;
            for (Field f : c.getDeclaredFields()) {
                must(!Modifier.isStatic(f.getModifiers()) || Modifier.isFinal(f.getModifiers()), "static and not final: " + f);
                fields += Modifier.isStatic(f.getModifiers()) ? 0 : 1;
            }
            must(fields <= 20, "too many fields: " + c);
            for (Method m : c.getDeclaredMethods()) {
                must(m.getParameterCount() <= 7, "too many parameters: " + m);
                must(c == TalkBench.class && FACE.contains(sign(m)) || !names.contains(m.getName()), "a name of the face: " + m);
            }
        }
    }

    private static void text(String text) {
        String code = text.replaceAll("(?s)/\\*.*?\\*/", "").replaceAll("//[^\n]*", "");
        Matcher ruledOut = Pattern.compile("\\b(throw|throws|try|catch|synchronized|assert|System\\.(?!arraycopy)\\w+"
            + "|Thread|Random|Object|var|double|float|\\w+Exact|package|native|volatile|transient)\\b|->|::|\"").matcher(code);
        while (ruledOut.find()) {
            must(false, "ruled out: " + ruledOut.group());
        }
        Matcher imports = Pattern.compile("import ([^;]+);").matcher(code);
        while (imports.find()) {
            must(imports.group(1).equals("java.util.Arrays"), "imported: " + imports.group(1));
        }
        must(text.chars().allMatch(sign -> sign < 127), "a sign above 126");
        Matcher library = Pattern.compile("\\b(Math|Integer|Arrays)\\.(\\w+)").matcher(code);
        while (library.find()) {
            must(List.of("min", "max", "abs", "bitCount", "fill", "copyOf").contains(library.group(2)), "called: " + library.group());
        }
        methodLengths(text.split("\n"));
    }

    private static void methodLengths(String[] lines) {
        for (int start = 0; start < lines.length; start++) {
            Matcher head = Pattern.compile("^( {4}| {8})(?! )[\\w\\[\\] ]+\\([^;=]*\\{$").matcher(lines[start]);
            if (head.find()) {
                int end = start;
                while (end < lines.length && !lines[end].equals(head.group(1) + "}")) {
                    end++;
                }
                must(end - start < 60, "too long, from line " + (start + 1));
            }
        }
    }
}
