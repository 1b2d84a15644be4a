import java.util.ArrayList;
import java.util.List;
import java.util.regex.Matcher;
import java.util.regex.Pattern;

/**
 * A run of calls on a new object, told as a text: "table(2,3)=1 put(0,0,3)=BEYOND". A call without an answer may
 * answer what it likes; 30*turn()=1 is 30 calls. Beside the calls of the face there are
 * fill(01/20), which makes a table of these places; shows(01/20), when that is the table; weights(12/30), which
 * weighs every place; weighing(12/30), when these are the weights; and tells(0,2,1), which tells each number.
 */
final class Run {
    static final int MOST_CALLS = 512;
    private static final List<String> FINDINGS =
        List.of("BEYOND", "MISSING", "SIZE", "KIND", "FULL", "NONE", "LONG", "LEFT_OPEN");
    private static final Pattern STEP = Pattern.compile("(?:(\\d+)\\*)?(\\w+)\\(([^()]*)\\)(?:=(\\S+))?");

    private final TalkBench bench = new TalkBench();
    private final List<String> calls = new ArrayList<>();
    private final List<String> faults = new ArrayList<>();

    static Run of(String script) {
        Run run = new Run();
        run.play(script);
        return run;
    }

    List<String> faults() {
        return faults;
    }

    /** The latest calls, each with what it answered. */
    List<String> calls() {
        return calls;
    }

    void play(String script) {
        for (String step : script.trim().split("\\s+")) {
            if (!step.isEmpty()) {
                playStep(step);
            }
        }
    }

    private void playStep(String step) {
        Matcher m = STEP.matcher(step);
        if (!m.matches()) {
            throw new IllegalArgumentException("no step of a run: " + step);
        }
        int times = m.group(1) == null ? 1 : Integer.parseInt(m.group(1));
        for (int i = 0; i < times; i++) {
            if (!playMany(m.group(2), m.group(3))) {
                int answer = ask(m.group(2), numbers(m.group(3)));
                if (m.group(4) != null) {
                    due(step, answer, number(m.group(4)));
                }
            }
        }
    }

    private void due(String call, int answer, int due) {
        if (answer != due) {
            faults.add(call + " answered " + answer + ", due is " + due + "; call " + calls.size() + " of its run");
        }
    }

    private boolean playMany(String name, String told) {
        switch (name) {
            case "fill": fill(told.split("/")); return true;
            case "shows": compare(told.split("/")); return true;
            case "weights": weigh(told.split("/"), false); return true;
            case "weighing": weigh(told.split("/"), true); return true;
            case "tells":
                for (int v : numbers(told)) {
                    ask("tell", v);
                }
                return true;
            default: return false;
        }
    }

    private void fill(String[] rows) {
        ask("table", rows.length, rows[0].length());
        for (int i = 0; i < rows.length; i++) {
            for (int j = 0; j < rows[i].length(); j++) {
                if (rows[i].charAt(j) != '0') {
                    ask("put", i, j, rows[i].charAt(j) - '0');
                }
            }
        }
    }

    private void compare(String[] rows) {
        due("told(0)", ask("told", 0), rows.length);
        due("told(1)", ask("told", 1), rows[0].length());
        for (int i = 0; i < rows.length; i++) {
            for (int j = 0; j < rows[i].length(); j++) {
                due("place(" + i + "," + j + ")", ask("place", i, j), rows[i].charAt(j) - '0');
            }
        }
    }

    private void weigh(String[] rows, boolean areDue) {
        for (int i = 0; i < rows.length; i++) {
            for (int j = 0; j < rows[i].length(); j++) {
                int w = rows[i].charAt(j) - '0';
                int before = ask("weigh", i, j, w);
                if (areDue) {
                    due("the weight at " + i + ", " + j, before, w);
                }
            }
        }
    }

    private static int[] numbers(String told) {
        if (told.isEmpty()) {
            return new int[0];
        }
        String[] words = told.split(",");
        int[] numbers = new int[words.length];
        for (int i = 0; i < words.length; i++) {
            numbers[i] = number(words[i]);
        }
        return numbers;
    }

    private static int number(String word) {
        if (FINDINGS.contains(word)) {
            return -1 - FINDINGS.indexOf(word);
        }
        switch (word) {
            case "LOW": return Integer.MIN_VALUE;
            case "HIGH": return Integer.MAX_VALUE;
            case "false": return 0;
            case "true": return 1;
            default: return Integer.parseInt(word);
        }
    }

    int ask(String name, int... a) {
        if (calls.size() >= MOST_CALLS) {
            throw new IllegalStateException("what an object answers after " + MOST_CALLS + " calls is free");
        }
        int answer = answer(name, a);
        StringBuilder call = new StringBuilder(name).append('(');
        for (int i = 0; i < a.length; i++) {
            call.append(i == 0 ? "" : ",").append(a[i]);
        }
        calls.add(call.append(")=").append(answer).toString());
        return answer;
    }

    private int answer(String name, int[] a) {
        switch (name) {
            case "table": return bench.table(a[0], a[1]);
            case "put": return bench.put(a[0], a[1], a[2]);
            case "place": return bench.place(a[0], a[1]);
            case "weigh": return bench.weigh(a[0], a[1], a[2]);
            case "rule": return bench.rule(a[0]);
            case "turn": return bench.turn();
            case "turnAnswers": return bench.turnAnswers();
            case "unlike": return bench.unlike(a[0] == 1);
            case "sheet": return bench.sheet(a[0], a[1], a[2]);
            case "write": return bench.write(a[0], a[1], a[2]);
            case "copy": return bench.copy(a[0], a[1], a[2], a[3], a[4]);
            case "lay": return bench.lay(a[0]);
            case "bits": return bench.bits(a[0], a[1]);
            case "ends": return bench.ends(a[0], a[1]);
            case "talk": return bench.talk();
            case "knot": return bench.knot(a[0], a[1]);
            case "said": return bench.said(a[0], a[1]);
            case "classes": return bench.classes(a[0] == 1);
            case "once": return bench.once(a[0] == 1);
            case "rank": return bench.rank(a[0] == 1);
            case "fool": return bench.fool(a[0]);
            case "cover": return bench.cover(a[0]);
            case "part": return bench.part();
            case "swing": return bench.swing();
            case "wrong": return bench.wrong(a[0]);
            case "tell": return bench.tell(a[0]);
            case "check": return bench.check();
            case "fools": return bench.fools(a[0]);
            case "keep": return bench.keep(a[0]);
            case "bring": return bench.bring(a[0]);
            case "as": return bench.as(a[0], a[1]);
            case "same": return bench.same(a[0]);
            case "undo": return bench.undo();
            case "told": return bench.told(a[0]);
            default: throw new IllegalArgumentException("no such call: " + name);
        }
    }
}
