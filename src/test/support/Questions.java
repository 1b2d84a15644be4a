import java.util.ArrayList;
import java.util.List;

/**
 * All that can be asked of an object that comes of a run of calls, but for told(6): where an asking changes
 * something, or there would be more calls than an object is good for, the run is played again on a new one.
 */
final class Questions {
    private final String start;
    private final List<String> answers = new ArrayList<>();

    private Questions(String start) {
        this.start = start;
    }

    static List<String> askAll(String start) {
        Questions questions = new Questions(start);
        questions.askTable();
        questions.askTalk();
        questions.askSaid();
        questions.askSlots();
        questions.askWeights();
        questions.askHistory();
        questions.askWaiting();
        for (int s = 0; s < 4; s++) {
            questions.askSheet(s);
        }
        return questions.answers;
    }

    private int ask(Run run, String name, int... args) {
        int answer = run.ask(name, args);
        answers.add(run.calls().get(run.calls().size() - 1));
        return answer;
    }

    private void askPlaces(Run run) {
        int rows = ask(run, "told", 0);
        int columns = ask(run, "told", 1);
        for (int i = 0; i < rows; i++) {
            for (int j = 0; j < columns; j++) {
                ask(run, "place", i, j);
            }
        }
    }

    private void askTable() {
        Run run = Run.of(start);
        for (int what = 0; what < 6; what++) {
            ask(run, "told", what);
        }
        askPlaces(run);
        for (int side = 0; side < 2; side++) {
            for (String name : List.of("unlike", "classes", "once", "rank", "fool", "cover")) {
                ask(run, name, side);
            }
        }
        ask(run, "part");
        ask(run, "swing");
        for (int b = 0; b <= 6; b++) {
            ask(run, "wrong", b);
        }
        for (int set = 1; set < 32; set++) {
            for (String name : List.of("bits", "ends")) {
                ask(run, name, set, 31 % (1 << run.ask("told", 1)));
                ask(run, name, set % (1 << run.ask("told", 0)), 32 - set);
            }
        }
    }

    private void askTalk() {
        Run run = Run.of(start);
        int knots = Math.max(1, run.ask("told", 5));
        for (int k = 0; k < knots; k++) {
            for (int what = 0; what < 6; what++) {
                ask(run, "knot", k, what);
            }
        }
    }

    private void askSaid() {
        Run run = Run.of(start);
        int rows = run.ask("told", 0);
        int columns = run.ask("told", 1);
        for (int i = 0; i < rows; i++) {
            for (int j = 0; j < columns; j++) {
                ask(run, "said", i, j);
            }
        }
        ask(run, "talk");
        for (int k = 0; k < 5; k++) {
            ask(run, "knot", k, 1);
        }
    }

    private void askSlots() {
        Run run = Run.of(start);
        for (int slot = 0; slot < 4; slot++) {
            for (int kind = 0; kind < 4; kind++) {
                ask(run, "as", slot, kind);
            }
            ask(run, "same", slot);
        }
        for (int slot = 0; slot < 4; slot++) {
            if (ask(run, "bring", slot) > 0) {
                askPlaces(run);
                askWeights(run);
            }
        }
    }

    private void askWeights() {
        askWeights(Run.of(start));
    }

    private void askWeights(Run run) {
        int rows = run.ask("told", 0);
        int columns = run.ask("told", 1);
        for (int i = 0; i < rows; i++) {
            for (int j = 0; j < columns; j++) {
                ask(run, "weigh", i, j, 5);
            }
        }
    }

    private void askHistory() {
        boolean more = true;
        for (int depth = 1; more && depth < 40; depth++) {
            Run run = Run.of(start);
            for (int i = 1; i < depth; i++) {
                run.ask("undo");
            }
            more = ask(run, "undo") >= 0;
            askPlaces(run);
            ask(run, "swing");
            askWeights(run);
        }
    }

    private void askWaiting() {
        ask(Run.of(start), "check");
        ask(Run.of(start), "fools", 0);
        ask(Run.of(start), "fools", 1);
        Run run = Run.of(start);
        ask(run, "tell", 0);
        ask(run, "check");
    }

    /** Its bits, how many numbers it has, and which they are as places: others are not told apart. */
    private void askSheet(int s) {
        Run run = Run.of(start);
        run.ask("table", 5, 5);
        int other = (s + 1) % 4;
        for (int bits = 8; bits <= 32; bits *= 2) {
            run.ask("sheet", other, bits, 1);
            for (int i = 0; ask(run, "copy", s, i, other, 0, 1) == 1; i++) {
                ask(run, "lay", other);
                ask(run, "place", 0, 0);
            }
        }
    }
}
