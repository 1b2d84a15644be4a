import java.util.ArrayDeque;
import java.util.ArrayList;
import java.util.Arrays;
import java.util.Collections;
import java.util.HashMap;
import java.util.HashSet;
import java.util.List;
import java.util.Map;
import java.util.Random;
import java.util.Set;
import java.util.TreeSet;

/** Random runs of calls, each answer against that of a slow model which follows the document's words. */
public final class OracleTest {
    private static final int RUNS = 400;
    private static final int CALLS = 512;
    private static int wrong = 0;

    private final TalkBench bench = new TalkBench();
    private final Model model = new Model();
    private final Random random;
    private final List<String> calls = new ArrayList<>();
    private boolean failed;

    private OracleTest(long seed) {
        random = new Random(seed);
    }

    public static void main(String[] args) {
        int runs = args.length > 0 ? Integer.parseInt(args[0]) : RUNS;
        int first = args.length > 1 ? Integer.parseInt(args[1]) : 1;
        for (int seed = first; seed < first + runs; seed++) {
            new OracleTest(seed).run(seed);
        }
        smallTables();
        System.out.println(wrong == 0 ? "all answers are the model's" : wrong + " answers are not the model's");
        if (wrong != 0) {
            System.exit(1);
        }
    }

    private void run(int seed) {
        int style = seed % 4;
        while (calls.size() < CALLS && !failed) {
            step(style);
        }
        if (failed) {
            System.out.println("seed " + seed + ": " + String.join("; ", calls.subList(Math.max(0, calls.size() - 40), calls.size())));
        }
    }

    private void due(String call, int got, int want) {
        calls.add(call + "=" + got);
        if (got != want) {
            wrong++;
            failed = true;
            System.out.println(call + " answered " + got + ", the model " + want);
        }
    }

    private int near(int least, int most) {
        switch (random.nextInt(60)) {
            case 0: return least - 1;
            case 1: return most + 1;
            case 2: return Integer.MIN_VALUE;
            case 3: return Integer.MAX_VALUE;
            case 4: return random.nextInt();
            default: return least + random.nextInt(most - least + 1);
        }
    }

    private int row() { return near(0, model.cells.length - 1); }
    private int column() { return near(0, model.cells[0].length - 1); }
    private int rowSet() { return near(1, (1 << model.cells.length) - 1); }
    private int columnSet() { return near(1, (1 << model.cells[0].length) - 1); }

    private void step(int style) {
        int dice = random.nextInt(100);
        if (dice < 35) {
            change(style);
        } else if (dice < 45) {
            sheets();
        } else if (dice < 75) {
            ask();
        } else if (dice < 85) {
            tellSomething();
        } else {
            slots();
        }
    }

    private void change(int style) {
        switch (random.nextInt(12)) {
            case 0: { int r = near(1, 5), c = near(1, 5); due("table(" + r + "," + c + ")", bench.table(r, c), model.table(r, c)); break; }
            case 1: case 2: case 3: { int r = row(), c = column(), v = near(0, style == 0 ? 1 : 2); due("put(" + r + "," + c + "," + v + ")", bench.put(r, c, v), model.put(r, c, v)); break; }
            case 4: case 5: { int r = row(), c = column(), w = near(0, 9); due("weigh(" + r + "," + c + "," + w + ")", bench.weigh(r, c, w), model.weigh(r, c, w)); break; }
            case 6: { int r = near(0, 4); due("rule(" + r + ")", bench.rule(r), model.rule(r)); break; }
            case 7: due("turn()", bench.turn(), model.turn()); break;
            case 8: due("turnAnswers()", bench.turnAnswers(), model.turnAnswers()); break;
            case 9: due("undo()", bench.undo(), model.undo()); break;
            default: scramble(style);
        }
    }

    private void scramble(int style) {
        int r = 1 + random.nextInt(5), c = 1 + random.nextInt(5);
        if (random.nextBoolean()) { r = 3 + random.nextInt(2); c = 3 + random.nextInt(3); }
        due("table(" + r + "," + c + ")", bench.table(r, c), model.table(r, c));
        int s = random.nextInt(4);
        due("sheet", bench.sheet(s, 8, r * c), model.sheet(s, 8, r * c));
        int opens = style == 0 ? 0 : style == 1 ? 10 : 30;
        int ones = 20 + random.nextInt(60);
        for (int i = 0; i < r * c; i++) {
            int v = random.nextInt(100) < opens ? 2 : random.nextInt(100) < ones ? 1 : 0;
            due("write(" + s + "," + i + "," + v + ")", bench.write(s, i, v), model.write(s, i, v));
        }
        due("lay(" + s + ")", bench.lay(s), model.lay(s));
        for (int i = random.nextInt(2) * r * c - 1; i >= 0; i--) {
            int w = random.nextInt(10);
            due("weigh(" + i / c + "," + i % c + "," + w + ")", bench.weigh(i / c, i % c, w), model.weigh(i / c, i % c, w));
        }
    }

    private void sheets() {
        int s = near(0, 3), t = near(0, 3);
        switch (random.nextInt(5)) {
            case 0: {
                int[] widths = {0, 8, 16, 32, 8, 8, 9, -8, 64};
                int b = widths[random.nextInt(widths.length)], n = near(0, random.nextBoolean() ? 30 : 6);
                due("sheet(" + s + "," + b + "," + n + ")", bench.sheet(s, b, n), model.sheet(s, b, n));
                break;
            }
            case 1: case 2: {
                int i = near(0, 8), v = random.nextInt(4) + (random.nextInt(4) == 0 ? 256 * random.nextInt(300) : 0) - (random.nextInt(9) == 0 ? 256 : 0);
                due("write(" + s + "," + i + "," + v + ")", bench.write(s, i, v), model.write(s, i, v));
                break;
            }
            case 3: {
                int f = near(0, 6), o = near(0, 6), n = near(0, 5);
                due("copy(" + s + "," + f + "," + t + "," + o + "," + n + ")", bench.copy(s, f, t, o, n), model.copy(s, f, t, o, n));
                break;
            }
            default: due("lay(" + s + ")", bench.lay(s), model.lay(s));
        }
    }

    private void ask() {
        switch (random.nextInt(17)) {
            case 0: { int r = rowSet(), c = columnSet(); due("bits(" + r + "," + c + ")", bench.bits(r, c), model.bits(r, c)); break; }
            case 1: { int r = rowSet(), c = columnSet(); due("ends(" + r + "," + c + ")", bench.ends(r, c), model.ends(r, c)); break; }
            case 2: { int r = (1 << model.cells.length) - 1, c = (1 << model.cells[0].length) - 1; due("bits(all)", bench.bits(r, c), model.bits(r, c)); due("ends(all)", bench.ends(r, c), model.ends(r, c)); break; }
            case 3: due("talk()", bench.talk(), model.talk()); wholeTalk(); break;
            case 4: { int k = near(0, Math.max(1, model.knots.size() - 1)), w = near(0, 5); due("knot(" + k + "," + w + ")", bench.knot(k, w), model.knot(k, w)); break; }
            case 5: { int r = row(), c = column(); due("said(" + r + "," + c + ")", bench.said(r, c), model.said(r, c)); break; }
            case 6: { boolean c = random.nextBoolean(); due("classes(" + c + ")", bench.classes(c), model.classes(c)); break; }
            case 7: { boolean c = random.nextBoolean(); due("once(" + c + ")", bench.once(c), model.once(c)); break; }
            case 8: { boolean f = random.nextBoolean(); due("rank(" + f + ")", bench.rank(f), model.rank(f)); break; }
            case 9: { int v = near(0, 1); due("fool(" + v + ")", bench.fool(v), model.fool(v)); break; }
            case 10: { int v = near(0, 1); due("cover(" + v + ")", bench.cover(v), model.cover(v)); break; }
            case 11: due("part()", bench.part(), model.part()); break;
            case 12: due("swing()", bench.swing(), model.swing()); break;
            case 13: { int b = near(0, 6); due("wrong(" + b + ")", bench.wrong(b), model.wrong(b)); break; }
            case 14: { boolean c = random.nextBoolean(); due("unlike(" + c + ")", bench.unlike(c), model.unlike(c)); break; }
            case 15: { int w = near(0, 6); due("told(" + w + ")", bench.told(w), model.told(w)); break; }
            default: { int r = row(), c = column(); due("place(" + r + "," + c + ")", bench.place(r, c), model.place(r, c)); }
        }
    }

    private void wholeTalk() {
        if (random.nextInt(4) != 0) return;
        for (int k = 0; k < model.knots.size(); k++) {
            for (int w = 0; w < 6; w++) due("knot(" + k + "," + w + ")", bench.knot(k, w), model.knot(k, w));
        }
        int r = row(), c = column(), w = near(0, 9);
        due("weigh(" + r + "," + c + "," + w + ")", bench.weigh(r, c, w), model.weigh(r, c, w));
        for (int i = 0; i < model.cells.length; i++) {
            for (int j = 0; j < model.cells[0].length; j++) due("said(" + i + "," + j + ")", bench.said(i, j), model.said(i, j));
        }
        for (int b = 6; b >= 0; b--) due("wrong(" + b + ")", bench.wrong(b), model.wrong(b));
        due("swing()", bench.swing(), model.swing());
    }

    private void tell(int v) { due("tell(" + v + ")", bench.tell(v), model.tell(v)); }

    private void tellSomething() {
        switch (random.nextInt(6)) {
            case 0: {
                int count = random.nextInt(6);
                for (int i = 0; i < count; i++) tell(near(0, 4));
                break;
            }
            case 1: case 2: case 3: {
                List<Integer> numbers = new ArrayList<>();
                randomTalk(model.allRows(), model.allColumns(), numbers);
                if (random.nextInt(2) == 0) numbers.set(random.nextInt(numbers.size()), near(0, 6));
                if (random.nextInt(6) == 0) numbers.add(random.nextInt(3));
                if (random.nextInt(6) == 0) numbers.remove(numbers.size() - 1);
                for (int v : numbers) tell(v);
                due("check()", bench.check(), model.check());
                break;
            }
            case 4: {
                int v = random.nextInt(2), count = random.nextInt(4);
                for (int i = 0; i < count; i++) tell(random.nextInt(8) == 0 ? near(0, 24) : placeThatIs(v));
                int asked = random.nextInt(10) == 0 ? near(0, 1) : v;
                due("fools(" + asked + ")", bench.fools(asked), model.fools(asked));
                break;
            }
            default:
                due("check()", bench.check(), model.check());
        }
    }

    private int placeThatIs(int v) {
        int at = 0;
        for (int tries = 0; tries < 20; tries++) {
            int r = random.nextInt(model.cells.length), c = random.nextInt(model.cells[0].length);
            at = 5 * r + c;
            if (model.cells[r][c] == v) return at;
        }
        return at;
    }

    private void randomTalk(Set<Integer> rows, Set<Integer> columns, List<Integer> numbers) {
        if (model.even(rows, columns) && random.nextInt(12) != 0 || rows.size() * columns.size() == 1) {
            numbers.add(2);
            numbers.add(model.has(rows, columns, 1) ? 1 : model.has(rows, columns, 0) ? 0 : random.nextInt(2));
            return;
        }
        boolean byColumns = rows.size() == 1 || columns.size() > 1 && random.nextBoolean();
        List<Integer> parted = new ArrayList<>(byColumns ? columns : rows);
        Set<Integer> first = new TreeSet<>(), second = new TreeSet<>();
        first.add(parted.get(0));
        for (int i = 1; i < parted.size(); i++) (random.nextBoolean() ? first : second).add(parted.get(i));
        if (second.isEmpty()) {
            first.remove(parted.get(parted.size() - 1));
            second.add(parted.get(parted.size() - 1));
        }
        numbers.add(byColumns ? 1 : 0);
        numbers.add(Model.number(second));
        randomTalk(byColumns ? rows : first, byColumns ? first : columns, numbers);
        randomTalk(byColumns ? rows : second, byColumns ? second : columns, numbers);
    }

    private void slots() {
        int s = near(0, 3);
        switch (random.nextInt(6)) {
            case 0: due("keep(" + s + ")", bench.keep(s), model.keep(s)); break;
            case 1: due("bring(" + s + ")", bench.bring(s), model.bring(s)); break;
            case 2: { int k = near(0, 3); due("as(" + s + "," + k + ")", bench.as(s, k), model.as(s, k)); break; }
            case 3: due("same(" + s + ")", bench.same(s), model.same(s)); break;
            case 4: reorder(); break;
            default: due("undo()", bench.undo(), model.undo());
        }
    }

    private void reorder() {
        int s = random.nextInt(4);
        due("keep(" + s + ")", bench.keep(s), model.keep(s));
        int[][] before = Model.copyOf(model.cells);
        List<Integer> rows = new ArrayList<>(model.allRows()), columns = new ArrayList<>(model.allColumns());
        Collections.shuffle(rows, random);
        Collections.shuffle(columns, random);
        for (int r = 0; r < before.length; r++) {
            for (int c = 0; c < before[0].length; c++) {
                int v = before[rows.get(r)][columns.get(c)];
                if (v != model.cells[r][c]) due("put(" + r + "," + c + "," + v + ")", bench.put(r, c, v), model.put(r, c, v));
            }
        }
        due("same(" + s + ")", bench.same(s), model.same(s));
        if (random.nextBoolean()) {
            int r = random.nextInt(before.length), c = random.nextInt(before[0].length), v = random.nextInt(3);
            due("put(" + r + "," + c + "," + v + ")", bench.put(r, c, v), model.put(r, c, v));
            due("same(" + s + ")", bench.same(s), model.same(s));
        }
    }

    /** Every table of 2 rows and 3 columns, and of 3 rows and 2 columns. */
    private static void smallTables() {
        OracleTest run = new OracleTest(0);
        for (int turned = 0; turned < 2; turned++) {
            int rows = 2 + turned, columns = 3 - turned;
            run.due("table", run.bench.table(rows, columns), run.model.table(rows, columns));
            for (int code = 0; code < 729; code++) {
                run.calls.clear();
                int rest = code;
                for (int at = 0; at < 6; at++) {
                    int r = at / columns, c = at % columns, v = rest % 3;
                    rest /= 3;
                    run.due("put(" + r + "," + c + "," + v + ")", run.bench.put(r, c, v), run.model.put(r, c, v));
                }
                run.askAll(rows, columns);
                if (run.failed) return;
            }
        }
    }

    private void askAll(int rows, int columns) {
        for (int r = 1; r < 1 << rows; r++) {
            for (int c = 1; c < 1 << columns; c++) {
                due("bits(" + r + "," + c + ")", bench.bits(r, c), model.bits(r, c));
                due("ends(" + r + "," + c + ")", bench.ends(r, c), model.ends(r, c));
            }
        }
        due("talk()", bench.talk(), model.talk());
        for (int k = 0; k < model.knots.size(); k++) {
            for (int w = 0; w < 6; w++) due("knot(" + k + "," + w + ")", bench.knot(k, w), model.knot(k, w));
        }
        for (int v = 0; v < 2; v++) {
            due("fool(" + v + ")", bench.fool(v), model.fool(v));
            due("cover(" + v + ")", bench.cover(v), model.cover(v));
            due("rank(" + v + ")", bench.rank(v == 1), model.rank(v == 1));
            due("classes(" + v + ")", bench.classes(v == 1), model.classes(v == 1));
            due("unlike(" + v + ")", bench.unlike(v == 1), model.unlike(v == 1));
        }
        due("part()", bench.part(), model.part());
        due("swing()", bench.swing(), model.swing());
        for (int b = 0; b < 4; b++) due("wrong(" + b + ")", bench.wrong(b), model.wrong(b));
    }

    /** The document's words, without any care for speed. */
    private static final class Model {
        private static final class Knot {
            int whose, first, second, above;
            Set<Integer> rows, columns;
        }

        private static final class Kept {
            final int[][] cells, weights;
            Kept(int[][] cells, int[][] weights) { this.cells = copyOf(cells); this.weights = copyOf(weights); }
        }

        int[][] cells = new int[1][1];
        int[][] weights = {{1}};
        List<Knot> knots = new ArrayList<>();
        final ArrayDeque<Kept> past = new ArrayDeque<>();
        final Kept[] slots = new Kept[4];
        final long[][] sheets = new long[4][];
        final int[] widths = new int[4];
        List<Integer> waiting = new ArrayList<>();
        int findings = 0;
        final Map<String, Integer> memo = new HashMap<>();
        private int cursor;
        private int knotsSeen;

        static int[][] copyOf(int[][] grid) {
            int[][] copy = new int[grid.length][];
            for (int i = 0; i < grid.length; i++) copy[i] = grid[i].clone();
            return copy;
        }

        static int number(Set<Integer> set) {
            int n = 0;
            for (int member : set) n += 1 << member;
            return n;
        }

        static Set<Integer> set(int n) {
            Set<Integer> members = new TreeSet<>();
            for (int i = 0; i < 31; i++) if ((n >> i & 1) == 1) members.add(i);
            return members;
        }

        Set<Integer> allRows() { return set((1 << cells.length) - 1); }
        Set<Integer> allColumns() { return set((1 << cells[0].length) - 1); }
        private int finding(int f) { findings++; return f; }
        private boolean no(int r, int c) { return r < 0 || c < 0 || r >= cells.length || c >= cells[0].length; }

        private void save(boolean keepTalk) {
            past.addLast(new Kept(cells, weights));
            if (past.size() > 30) past.removeFirst();
            memo.clear();
            if (!keepTalk) knots = new ArrayList<>();
        }

        int count(int[][] grid, int v) {
            int n = 0;
            for (int[] line : grid) for (int x : line) if (x == v) n++;
            return n;
        }

        boolean has(Set<Integer> rows, Set<Integer> columns, int v) {
            for (int r : rows) for (int c : columns) if (cells[r][c] == v) return true;
            return false;
        }

        boolean even(Set<Integer> rows, Set<Integer> columns) {
            return !(has(rows, columns, 0) && has(rows, columns, 1));
        }

        int table(int rows, int columns) {
            if (rows < 1 || rows > 5 || columns < 1 || columns > 5) return finding(-1);
            save(false);
            int before = cells.length * cells[0].length;
            cells = new int[rows][columns];
            weights = new int[rows][columns];
            for (int[] line : weights) Arrays.fill(line, 1);
            return before;
        }

        int put(int r, int c, int v) {
            if (no(r, c) || v < 0 || v > 2) return finding(-1);
            save(false);
            int before = cells[r][c];
            cells[r][c] = v;
            return before;
        }

        int place(int r, int c) { return no(r, c) ? finding(-1) : cells[r][c]; }

        int weigh(int r, int c, int w) {
            if (no(r, c) || w < 0 || w > 9) return finding(-1);
            save(true);
            int before = weights[r][c];
            weights[r][c] = w;
            return before;
        }

        int rule(int rule) {
            if (rule < 0 || rule > 4) return finding(-1);
            save(false);
            for (int i = 0; i < cells.length; i++) {
                for (int j = 0; j < cells[0].length; j++) {
                    int d = Math.abs(i - j), common = 0;
                    for (int b = 0; b < 3; b++) if ((i >> b) % 2 == 1 && (j >> b) % 2 == 1) common++;
                    boolean one = rule == 0 && i == j || rule == 1 && i < j || rule == 2 && common == 0 || rule == 3 && common % 2 == 1 || rule == 4 && d <= 1;
                    cells[i][j] = one ? 1 : rule == 4 && d == 2 ? 2 : 0;
                }
            }
            return count(cells, 1);
        }

        private static int[][] turned(int[][] grid) {
            int[][] other = new int[grid[0].length][grid.length];
            for (int i = 0; i < grid.length; i++) for (int j = 0; j < grid[0].length; j++) other[j][i] = grid[i][j];
            return other;
        }

        int turn() {
            save(false);
            cells = turned(cells);
            weights = turned(weights);
            return cells.length;
        }

        int turnAnswers() {
            save(false);
            for (int[] line : cells) for (int j = 0; j < line.length; j++) if (line[j] < 2) line[j] ^= 1;
            return count(cells, 1);
        }

        int unlike(boolean columns) {
            Set<String> seen = new HashSet<>();
            for (int[] line : columns ? turned(cells) : cells) seen.add(Arrays.toString(line));
            return seen.size();
        }

        int sheet(int s, int bits, int n) {
            if (s < 0 || s > 3 || !List.of(0, 8, 16, 32).contains(bits)) return finding(-1);
            if (n < 0) return finding(-3);
            if (n > 30) return finding(-1);
            widths[s] = bits;
            sheets[s] = bits == 0 ? null : new long[n];
            return bits == 0 ? 0 : n;
        }

        int write(int s, int i, int v) {
            if (s < 0 || s > 3) return finding(-1);
            if (sheets[s] == null) return finding(-2);
            if (i < 0 || i >= sheets[s].length) return finding(-1);
            sheets[s][i] = Math.floorMod((long) v, 1L << widths[s]);
            return 0;
        }

        int copy(int s, int from, int t, int to, int n) {
            if (s < 0 || s > 3 || t < 0 || t > 3) return finding(-1);
            if (sheets[s] == null || sheets[t] == null) return finding(-2);
            if (widths[s] != widths[t]) return finding(-4);
            if (from < 0 || to < 0 || n < 0 || (long) from + n > sheets[s].length || (long) to + n > sheets[t].length) return finding(-1);
            long[] source = sheets[s].clone();
            for (int i = 0; i < n; i++) sheets[t][to + i] = source[from + i];
            return n;
        }

        int lay(int s) {
            if (s < 0 || s > 3) return finding(-1);
            if (sheets[s] == null) return finding(-2);
            if (sheets[s].length > cells.length * cells[0].length) return finding(-3);
            for (long v : sheets[s]) if (v > 2) return finding(-1);
            save(false);
            for (int at = 0; at < cells.length * cells[0].length; at++) {
                cells[at / cells[0].length][at % cells[0].length] = at < sheets[s].length ? (int) sheets[s][at] : 2;
            }
            return sheets[s].length;
        }

        private boolean noSets(int rows, int columns) {
            return rows <= 0 || columns <= 0 || rows >= 1 << cells.length || columns >= 1 << cells[0].length;
        }

        /** All partings of a block in the order of THE BEST TALK: whose, FIRST, SECOND. */
        private List<int[]> partings(int rows, int columns) {
            List<int[]> all = new ArrayList<>();
            for (int side = 0; side < 2; side++) {
                int parted = side == 0 ? rows : columns;
                for (int second = 1; second < parted; second++) {
                    if ((second & parted) == second && (second & Integer.lowestOneBit(parted)) == 0) {
                        all.add(new int[] {side, parted - second, second});
                    }
                }
            }
            return all;
        }

        private int least(int rows, int columns) {
            String key = "b" + rows + "," + columns;
            Integer known = memo.get(key);
            if (known != null) return known;
            int best = 0;
            if (!even(set(rows), set(columns))) {
                best = 99;
                for (int[] p : partings(rows, columns)) best = Math.min(best, 1 + reached(p, rows, columns));
            }
            memo.put(key, best);
            return best;
        }

        private int reached(int[] p, int rows, int columns) {
            return p[0] == 0 ? Math.max(least(p[1], columns), least(p[2], columns)) : Math.max(least(rows, p[1]), least(rows, p[2]));
        }

        private int fewest(int rows, int columns) {
            String key = "e" + rows + "," + columns;
            Integer known = memo.get(key);
            if (known != null) return known;
            int best = 1;
            if (!even(set(rows), set(columns))) {
                best = 99;
                for (int[] p : partings(rows, columns)) {
                    best = Math.min(best, p[0] == 0 ? fewest(p[1], columns) + fewest(p[2], columns) : fewest(rows, p[1]) + fewest(rows, p[2]));
                }
            }
            memo.put(key, best);
            return best;
        }

        int bits(int rows, int columns) { return noSets(rows, columns) ? finding(-1) : least(rows, columns); }
        int ends(int rows, int columns) { return noSets(rows, columns) ? finding(-1) : fewest(rows, columns); }

        int talk() {
            knots = new ArrayList<>();
            grow(number(allRows()), number(allColumns()), 0);
            return knots.size();
        }

        private int grow(int rows, int columns, int above) {
            Knot knot = new Knot();
            int k = knots.size();
            knots.add(knot);
            knot.rows = set(rows);
            knot.columns = set(columns);
            knot.above = above;
            if (even(knot.rows, knot.columns)) {
                knot.whose = 2;
                knot.first = has(knot.rows, knot.columns, 1) ? 1 : 0;
                knot.second = -100;
                return k;
            }
            for (int[] p : partings(rows, columns)) {
                if (1 + reached(p, rows, columns) == least(rows, columns)) {
                    knot.whose = p[0];
                    knot.first = p[0] == 0 ? grow(p[1], columns, above + 1) : grow(rows, p[1], above + 1);
                    knot.second = p[0] == 0 ? grow(p[2], columns, above + 1) : grow(rows, p[2], above + 1);
                    return k;
                }
            }
            throw new IllegalStateException("no parting");
        }

        int knot(int k, int what) {
            if (knots.isEmpty()) return finding(-6);
            if (k < 0 || k >= knots.size() || what < 0 || what > 5) return finding(-1);
            Knot knot = knots.get(k);
            return new int[] {knot.whose, number(knot.rows), number(knot.columns), knot.first, knot.second, knot.above}[what];
        }

        int said(int r, int c) {
            if (knots.isEmpty()) return finding(-6);
            if (no(r, c)) return finding(-1);
            StringBuilder words = new StringBuilder("1");
            Knot knot = knots.get(0);
            while (knot.whose != 2) {
                Knot first = knots.get(knot.first), second = knots.get(knot.second);
                boolean inFirst = first.rows.contains(r) && first.columns.contains(c);
                words.append(inFirst ? '0' : '1');
                knot = inFirst ? first : second;
            }
            return Integer.parseInt(words.toString(), 2);
        }

        int classes(boolean columns) {
            int[][] lines = columns ? turned(cells) : cells;
            int best = lines.length;
            int all = (int) Math.pow(lines.length, lines.length);
            for (int code = 0; code < all; code++) {
                int[] label = new int[lines.length];
                Set<Integer> used = new HashSet<>();
                for (int i = 0, rest = code; i < lines.length; i++, rest /= lines.length) used.add(label[i] = rest % lines.length);
                if (used.size() < best && peaceful(lines, label)) best = used.size();
            }
            return best;
        }

        private static boolean peaceful(int[][] lines, int[] label) {
            for (int i = 0; i < lines.length; i++) {
                for (int k = 0; k < i; k++) {
                    if (label[i] != label[k]) continue;
                    for (int at = 0; at < lines[i].length; at++) if (lines[i][at] + lines[k][at] == 1) return false;
                }
            }
            return true;
        }

        int once(boolean columns) {
            int classes = classes(columns);
            for (int b = 0; ; b++) if (Math.pow(2, b) >= classes) return b;
        }

        int rank(boolean fractions) {
            if (count(cells, 2) > 0) return finding(-8);
            int best = 0;
            for (int rows = 1; rows < 1 << cells.length; rows++) {
                for (int columns = 1; columns < 1 << cells[0].length; columns++) {
                    int size = Integer.bitCount(rows);
                    if (size != Integer.bitCount(columns) || size <= best) continue;
                    int det = det(new ArrayList<>(set(rows)), new ArrayList<>(set(columns)));
                    if (fractions ? det != 0 : det % 2 != 0) best = size;
                }
            }
            return best;
        }

        private int det(List<Integer> rows, List<Integer> columns) {
            if (rows.isEmpty()) return 1;
            int sum = 0;
            for (int j = 0; j < columns.size(); j++) {
                List<Integer> rest = new ArrayList<>(columns);
                rest.remove(j);
                if (cells[rows.get(0)][columns.get(j)] == 1) sum += (j % 2 == 0 ? 1 : -1) * det(rows.subList(1, rows.size()), rest);
            }
            return sum;
        }

        private boolean together(int p, int q) {
            for (int rows = 1; rows < 1 << cells.length; rows++) {
                for (int columns = 1; columns < 1 << cells[0].length; columns++) {
                    Set<Integer> r = set(rows), c = set(columns);
                    if (r.contains(p / 5) && r.contains(q / 5) && c.contains(p % 5) && c.contains(q % 5) && even(r, c)) return true;
                }
            }
            return false;
        }

        private List<Integer> placesThatAre(int v) {
            List<Integer> places = new ArrayList<>();
            for (int r : allRows()) for (int c : allColumns()) if (cells[r][c] == v) places.add(5 * r + c);
            return places;
        }

        int fool(int v) {
            if (v != 0 && v != 1) return finding(-1);
            List<Integer> places = placesThatAre(v);
            boolean[][] together = new boolean[25][25];
            for (int p : places) for (int q : places) together[p][q] = p == q || p < q && together(p, q) || p > q && together[q][p];
            return mostFooling(places, 0, new ArrayList<>(), together);
        }

        private static int mostFooling(List<Integer> places, int at, List<Integer> chosen, boolean[][] together) {
            if (at == places.size()) return chosen.size();
            int best = mostFooling(places, at + 1, chosen, together);
            for (int p : chosen) if (together[p][places.get(at)]) return best;
            chosen.add(places.get(at));
            best = Math.max(best, mostFooling(places, at + 1, chosen, together));
            chosen.remove(chosen.size() - 1);
            return best;
        }

        private int mask(int rows, int columns) {
            int mask = 0;
            for (int r : set(rows)) for (int c : set(columns)) mask |= 1 << 5 * r + c;
            return mask;
        }

        int cover(int v) {
            if (v != 0 && v != 1) return finding(-1);
            Set<Integer> masks = new HashSet<>();
            for (int rows = 1; rows < 1 << cells.length; rows++) {
                for (int columns = 1; columns < 1 << cells[0].length; columns++) {
                    if (!has(set(rows), set(columns), 1 - v)) masks.add(mask(rows, columns));
                }
            }
            int wanted = 0;
            for (int p : placesThatAre(v)) wanted |= 1 << p;
            for (int most = 0; ; most++) if (canCover(wanted, most, masks)) return most;
        }

        private static boolean canCover(int wanted, int most, Set<Integer> masks) {
            if (wanted == 0) return true;
            if (most == 0) return false;
            Set<Integer> tried = new HashSet<>();
            for (int mask : masks) {
                if ((mask & Integer.highestOneBit(wanted)) != 0 && tried.add(mask & wanted) && canCover(wanted & ~mask, most - 1, masks)) return true;
            }
            return false;
        }

        int part() {
            if (cells.length > 4 || cells[0].length > 4) return finding(-7);
            List<Integer> masks = new ArrayList<>();
            for (int rows = 1; rows < 1 << cells.length; rows++) {
                for (int columns = 1; columns < 1 << cells[0].length; columns++) {
                    if (even(set(rows), set(columns))) masks.add(mask(rows, columns));
                }
            }
            return fewestParts(mask(number(allRows()), number(allColumns())), masks, new HashMap<>());
        }

        private static int fewestParts(int wanted, List<Integer> masks, Map<Integer, Integer> known) {
            if (wanted == 0) return 0;
            Integer before = known.get(wanted);
            if (before != null) return before;
            int best = 99;
            for (int mask : masks) {
                if ((mask & Integer.highestOneBit(wanted)) != 0 && (mask & wanted) == mask) {
                    best = Math.min(best, 1 + fewestParts(wanted & ~mask, masks, known));
                }
            }
            known.put(wanted, best);
            return best;
        }

        private int weightOf(int rows, int columns, int v) {
            int sum = 0;
            for (int r : set(rows)) for (int c : set(columns)) if (cells[r][c] == v) sum += weights[r][c];
            return sum;
        }

        int swing() {
            int best = 0;
            for (int rows = 1; rows < 1 << cells.length; rows++) {
                for (int columns = 1; columns < 1 << cells[0].length; columns++) {
                    best = Math.max(best, Math.abs(weightOf(rows, columns, 1) - weightOf(rows, columns, 0)));
                }
            }
            return best;
        }

        int wrong(int b) {
            return b < 0 || b > 6 ? finding(-1) : loss(number(allRows()), number(allColumns()), b);
        }

        private int loss(int rows, int columns, int b) {
            String key = "w" + rows + "," + columns + "," + b;
            Integer known = memo.get(key);
            if (known != null) return known;
            int best = Math.min(weightOf(rows, columns, 0), weightOf(rows, columns, 1));
            if (b > 0) {
                for (int[] p : partings(rows, columns)) {
                    best = Math.min(best, p[0] == 0 ? loss(p[1], columns, b - 1) + loss(p[2], columns, b - 1) : loss(rows, p[1], b - 1) + loss(rows, p[2], b - 1));
                }
            }
            memo.put(key, best);
            return best;
        }

        int tell(int v) {
            if (waiting.size() == 120) return finding(-5);
            waiting.add(v);
            return waiting.size();
        }

        int check() {
            cursor = 0;
            knotsSeen = 0;
            int most = readKnot(allRows(), allColumns());
            int answer = most < 0 ? 100 + (-1 - most) : cursor < waiting.size() ? 90 : most;
            waiting = new ArrayList<>();
            return answer;
        }

        /** The most bits below, or -1 - k for a faulty knot k. */
        private int readKnot(Set<Integer> rows, Set<Integer> columns) {
            int k = knotsSeen++;
            if (cursor + 2 > waiting.size()) return -1 - k;
            int whose = waiting.get(cursor++), told = waiting.get(cursor++);
            if (whose == 2) return told == 0 && !has(rows, columns, 1) || told == 1 && !has(rows, columns, 0) ? 0 : -1 - k;
            if (whose != 0 && whose != 1) return -1 - k;
            Set<Integer> parted = whose == 0 ? rows : columns;
            if (told <= 0 || !parted.containsAll(set(told)) || set(told).contains(Collections.min(parted))) return -1 - k;
            Set<Integer> first = new TreeSet<>(parted);
            first.removeAll(set(told));
            int one = whose == 0 ? readKnot(first, columns) : readKnot(rows, first);
            if (one < 0) return one;
            int two = whose == 0 ? readKnot(set(told), columns) : readKnot(rows, set(told));
            return two < 0 ? two : 1 + Math.max(one, two);
        }

        int fools(int v) {
            List<Integer> numbers = waiting;
            waiting = new ArrayList<>();
            if (v != 0 && v != 1) return finding(-1);
            for (int p : numbers) if (p < 0 || no(p / 5, p % 5)) return finding(-1);
            for (int i = 0; i < numbers.size(); i++) {
                if (cells[numbers.get(i) / 5][numbers.get(i) % 5] != v) return 0;
                for (int k = 0; k < i; k++) {
                    if (numbers.get(i).equals(numbers.get(k)) || together(numbers.get(i), numbers.get(k))) return 0;
                }
            }
            return 1;
        }

        private int kind(int[][] grid) {
            return count(grid, 2) > 0 ? 3 : grid.length == grid[0].length ? 2 : 1;
        }

        int keep(int slot) {
            if (slot < 0 || slot > 3) return finding(-1);
            slots[slot] = new Kept(cells, weights);
            return kind(cells);
        }

        int bring(int slot) {
            if (slot < 0 || slot > 3) return finding(-1);
            if (slots[slot] == null) return finding(-6);
            save(false);
            cells = copyOf(slots[slot].cells);
            weights = copyOf(slots[slot].weights);
            return cells.length * cells[0].length;
        }

        int as(int slot, int kind) {
            if (slot < 0 || slot > 3 || kind < 0 || kind > 3) return finding(-1);
            if (slots[slot] == null) return finding(-6);
            List<List<Integer>> under = List.of(List.of(0, 1, 2, 3), List.of(1, 2), List.of(2), List.of(3));
            return under.get(kind).contains(kind(slots[slot].cells)) ? count(slots[slot].cells, 1) : finding(-4);
        }

        int same(int slot) {
            if (slot < 0 || slot > 3) return finding(-1);
            if (slots[slot] == null) return finding(-6);
            int[][] other = slots[slot].cells;
            if (other.length != cells.length || other[0].length != cells[0].length) return 0;
            for (List<Integer> rows : orders(new ArrayList<>(allRows()))) {
                for (List<Integer> columns : orders(new ArrayList<>(allColumns()))) {
                    boolean alike = true;
                    for (int r = 0; r < cells.length && alike; r++) {
                        for (int c = 0; c < cells[0].length && alike; c++) alike = cells[r][c] == other[rows.get(r)][columns.get(c)];
                    }
                    if (alike) return 1;
                }
            }
            return 0;
        }

        private static List<List<Integer>> orders(List<Integer> members) {
            List<List<Integer>> all = new ArrayList<>();
            if (members.isEmpty()) all.add(new ArrayList<>());
            for (Integer member : members) {
                List<Integer> rest = new ArrayList<>(members);
                rest.remove(member);
                for (List<Integer> order : orders(rest)) {
                    order.add(member);
                    all.add(order);
                }
            }
            return all;
        }

        int undo() {
            if (past.isEmpty()) return finding(-6);
            Kept kept = past.removeLast();
            cells = kept.cells;
            weights = kept.weights;
            memo.clear();
            knots = new ArrayList<>();
            return past.size();
        }

        int told(int what) {
            if (what < 0 || what > 6) return finding(-1);
            return new int[] {cells.length, cells[0].length, count(cells, 1), count(cells, 2), waiting.size(), knots.size(), findings}[what];
        }
    }
}
