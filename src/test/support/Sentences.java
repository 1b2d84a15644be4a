import java.io.IOException;
import java.util.List;
import java.util.Map;
import java.util.TreeMap;

/** Tests of the document's sentences: each says its promise's number and the sentence. */
final class Sentences {
    static final int TERMS = Document.TERMS;

    /** A task in the midst of work: slots 0 and 2, sheets 0, 1 and 3 (without a number), three numbers, a talk. */
    static final String BUSY = "fill(0120/1102/2011) weigh(0,1,7) weigh(2,3,0) sheet(0,8,5) write(0,0,1) write(0,4,2)"
        + " sheet(1,16,12) write(1,3,2) write(1,11,9) sheet(3,32,0) keep(0) turnAnswers() weigh(1,0,3) keep(2)"
        + " tells(6,5,1) talk() weigh(0,0,9)";
    /** As much of everything as the document allows: places, slots, sheets, numbers, acts to undo. */
    static final String FULL = "fill(01201/11021/20110/00121/10211) weights(12345/67890/98765/43210/55555)"
        + " keep(0) turn() keep(1) turnAnswers() keep(2) rule(3) keep(3) sheet(0,8,30) sheet(1,8,25) write(1,24,1)"
        + " sheet(2,16,30) write(2,29,300) sheet(3,32,30) put(4,4,2) put(0,0,1) 120*tell(6) talk()";
    /** A new object. */
    static final String NEW = "";

    private final Document document = new Document();
    private final Map<String, List<String>> answersBefore = new TreeMap<>();
    private int tests = 0;
    private int wrong = 0;

    Sentences() throws IOException {
    }

    private void fault(int promise, String sentence, String what) {
        wrong++;
        System.out.println((promise == TERMS ? "terms" : "promise " + promise) + ", \"" + sentence + "\": " + what);
    }

    private void begin(int promise, String sentence) {
        tests++;
        if (!document.has(promise, sentence)) {
            fault(promise, sentence, "the document does not say so");
        }
    }

    /** The sentence holds in each of the runs, each on a new object. */
    void says(int promise, String sentence, String... runs) {
        begin(promise, sentence);
        for (String script : runs) {
            Run run = Run.of(script);
            for (String fault : run.faults()) {
                fault(promise, sentence, fault + " (" + script + ")");
            }
        }
    }

    /** Each of the calls answers its finding after that run, and all that can be asked answers as ahead of it. */
    void refuses(int promise, String sentence, String start, String... calls) {
        begin(promise, sentence);
        for (String call : calls) {
            compare(promise, sentence, start, start + " " + call, 1);
        }
    }

    /** Each of the calls answers its finding, and all that can be asked answers as after the other act. */
    void refusesBut(int promise, String sentence, String start, String act, String... calls) {
        begin(promise, sentence);
        for (String call : calls) {
            compare(promise, sentence, start + " " + act, start + " " + call, 1);
        }
    }

    /** Each of the calls answers, and all that can be asked answers as ahead of it. */
    void asks(int promise, String sentence, String start, String... calls) {
        begin(promise, sentence);
        for (String call : calls) {
            compare(promise, sentence, start, start + " " + call, 0);
        }
    }

    private void compare(int promise, String sentence, String before, String after, int findings) {
        Run plain = Run.of(before);
        Run refused = Run.of(after);
        for (String fault : refused.faults()) {
            fault(promise, sentence, fault + " (" + after + ")");
        }
        int more = refused.ask("told", 6) - plain.ask("told", 6);
        if (more != findings) {
            fault(promise, sentence, "told(6) counts " + more + " more (" + after + ")");
        }
        List<String> due = answersBefore.computeIfAbsent(before, Questions::askAll);
        List<String> got = Questions.askAll(after);
        for (int i = 0; i < Math.max(due.size(), got.size()); i++) {
            String was = i < due.size() ? due.get(i) : "nothing";
            String is = i < got.size() ? got.get(i) : "nothing";
            if (!was.equals(is)) {
                fault(promise, sentence, is + " and not " + was + " (" + after + ")");
                break;
            }
        }
    }

    /** How many faults there were in all, a sentence that no test has said among them. */
    int end() {
        for (String left : document.leftOut()) {
            wrong++;
            System.out.println("no test says, of promise " + left);
        }
        if (document.countPromises() != 35) {
            wrong++;
            System.out.println("the document has " + document.countPromises() + " promises");
        }
        System.out.println(tests + " tests of sentences, " + wrong + " faults");
        return wrong;
    }
}
