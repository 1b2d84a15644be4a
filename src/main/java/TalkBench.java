import java.util.Arrays;

/**
 * A bench for tasks shared by two who each see a part of what is asked and send bits: fewest bits and ends
 * by best talks, talks by one alone, ranks, fooling places, covers by blocks, parts, talks that may be
 * wrong by told weights, and told talks judged.
 */
public final class TalkBench {
    private static final int BEYOND = -1;
    private static final int MISSING = -2;
    private static final int SIZE = -3;
    private static final int KIND = -4;
    private static final int FULL = -5;
    private static final int NONE = -6;
    private static final int LONG = -7;
    private static final int LEFT_OPEN = -8;

    private static final int OPEN = 2;
    private static final int SIDE = 5;
    private static final int PLACES = SIDE * SIDE;
    private static final int SETS = 1 << SIDE;
    // A block stands at ROW_STEP * its rows + COLUMN_STEP * its columns: without a set of its rows it stands
    // ROW_STEP * that set lower, likewise for columns.
    private static final int ROW_STEP = SETS;
    private static final int COLUMN_STEP = 1;
    private static final int BLOCKS = SETS * SETS;
    private static final int MOST_WEIGHT = 9;
    private static final int MOST_WRONG_BITS = 6;
    private static final int PART_SIDE = 4;
    // A row set can be parted four times below one another, and so can a column set.
    private static final int DEEPEST = 2 * (SIDE - 1);

    private static final int TASK_KIND = 0;
    private static final int WHOLE_KIND = 1;
    private static final int SQUARE_KIND = 2;
    private static final int LOOSE_KIND = 3;

    private static final int SLOTS = 4;
    private static final int SHEETS = 4;
    private static final int SHEET_NUMBERS = 30;
    private static final int MOST_WAITING = 120;
    private static final int MOST_UNDONE = 30;

    private static final int OF_A = 0;
    private static final int OF_B = 1;
    private static final int END = 2;
    private static final int NO_KNOT = -100;
    private static final int MORE_TOLD = 90;
    private static final int FAULT = 100;

    private final Task task = new Task();
    private final Task[] slots = new Task[SLOTS];
    private final Sheet[] sheets = new Sheet[SHEETS];
    private final History history = new History();
    private final Marks marks = new Marks();
    private final Blocks blocks;
    private final Scales scales;
    private final Talk talk;
    private final Judge judge;
    private final Searches searches;
    private final Likeness likeness = new Likeness();
    private int findings;

    public TalkBench() {
        for (int s = 0; s < SHEETS; s++) {
            sheets[s] = new Sheet();
        }
        Partings partings = new Partings();
        blocks = new Blocks(marks, partings);
        scales = new Scales(task, marks, partings);
        talk = new Talk(marks, blocks);
        judge = new Judge(task, marks);
        searches = new Searches(task, marks);
        marks.read(task);
    }

    // ---- tables

    public int table(int rows, int columns) {
        if (rows < 1 || rows > SIDE || columns < 1 || columns > SIDE) {
            return finding(BEYOND);
        }
        int before = task.size();
        history.push(task);
        task.clear(rows, columns);
        takeNewPlaces();
        return before;
    }

    public int put(int row, int column, int v) {
        if (!task.has(row, column) || v < 0 || v > OPEN) {
            return finding(BEYOND);
        }
        history.push(task);
        int at = SIDE * row + column;
        int before = task.places[at];
        task.places[at] = v;
        takeNewPlaces();
        return before;
    }

    public int place(int row, int column) {
        if (!task.has(row, column)) {
            return finding(BEYOND);
        }
        return task.places[SIDE * row + column];
    }

    public int weigh(int row, int column, int w) {
        if (!task.has(row, column) || w < 0 || w > MOST_WEIGHT) {
            return finding(BEYOND);
        }
        history.push(task);
        int at = SIDE * row + column;
        int before = task.weights[at];
        task.weights[at] = w;
        // The talk stays: no weight has a say in it.
        scales.forget();
        return before;
    }

    public int rule(int rule) {
        if (rule < 0 || rule > 4) {
            return finding(BEYOND);
        }
        history.push(task);
        task.fillByRule(rule);
        takeNewPlaces();
        return task.count(1);
    }

    public int turn() {
        history.push(task);
        task.swapSides();
        takeNewPlaces();
        return task.rowCount;
    }

    public int turnAnswers() {
        history.push(task);
        task.swapAnswers();
        takeNewPlaces();
        return task.count(1);
    }

    public int unlike(boolean columns) {
        return task.countUnlike(columns);
    }

    // ---- sheets

    public int sheet(int s, int bits, int n) {
        if (noSheet(s) || (bits != 0 && bits != 8 && bits != 16 && bits != 32)) {
            return finding(BEYOND);
        }
        if (n < 0) {
            return finding(SIZE);
        }
        if (n > SHEET_NUMBERS) {
            return finding(BEYOND);
        }
        int count = bits == 0 ? 0 : n;
        sheets[s].reset(bits, count);
        return count;
    }

    public int write(int s, int i, int v) {
        if (noSheet(s)) {
            return finding(BEYOND);
        }
        if (sheets[s].isMissing()) {
            return finding(MISSING);
        }
        if (i < 0 || i >= sheets[s].count) {
            return finding(BEYOND);
        }
        sheets[s].set(i, v);
        return 0;
    }

    public int copy(int s, int from, int t, int to, int n) {
        if (noSheet(s) || noSheet(t)) {
            return finding(BEYOND);
        }
        Sheet source = sheets[s];
        Sheet target = sheets[t];
        if (source.isMissing() || target.isMissing()) {
            return finding(MISSING);
        }
        if (source.bits != target.bits) {
            return finding(KIND);
        }
        if (!source.hasRun(from, n) || !target.hasRun(to, n)) {
            return finding(BEYOND);
        }
        System.arraycopy(source.numbers, from, target.numbers, to, n);
        return n;
    }

    public int lay(int s) {
        if (noSheet(s)) {
            return finding(BEYOND);
        }
        Sheet source = sheets[s];
        if (source.isMissing()) {
            return finding(MISSING);
        }
        if (source.count > task.size()) {
            return finding(SIZE);
        }
        if (!source.holdsPlaces()) {
            return finding(BEYOND);
        }
        history.push(task);
        task.fillFrom(source);
        takeNewPlaces();
        return source.count;
    }

    // ---- talks

    public int bits(int rows, int columns) {
        if (!marks.hasBlock(rows, columns)) {
            return finding(BEYOND);
        }
        return blocks.leastBits(rows, columns);
    }

    public int ends(int rows, int columns) {
        if (!marks.hasBlock(rows, columns)) {
            return finding(BEYOND);
        }
        return blocks.fewestEnds(rows, columns);
    }

    public int talk() {
        talk.make();
        return talk.count;
    }

    public int knot(int k, int what) {
        if (talk.count == 0) {
            return finding(NONE);
        }
        if (k < 0 || k >= talk.count || what < 0 || what > 5) {
            return finding(BEYOND);
        }
        return talk.tellOf(k, what);
    }

    public int said(int row, int column) {
        if (talk.count == 0) {
            return finding(NONE);
        }
        if (!task.has(row, column)) {
            return finding(BEYOND);
        }
        return talk.wordsFor(row, column);
    }

    public int classes(boolean columns) {
        return blocks.fewestClasses(columns);
    }

    public int once(boolean columns) {
        int wanted = blocks.fewestClasses(columns);
        int b = 0;
        while (b < SIDE && (1 << b) < wanted) {
            b++;
        }
        return b;
    }

    // ---- bounds

    public int rank(boolean fractions) {
        if (task.count(OPEN) > 0) {
            return finding(LEFT_OPEN);
        }
        return task.findRank(fractions);
    }

    public int fool(int v) {
        if (isNoAnswer(v)) {
            return finding(BEYOND);
        }
        return Integer.bitCount(searches.greatestFooling(v));
    }

    public int cover(int v) {
        if (isNoAnswer(v)) {
            return finding(BEYOND);
        }
        return searches.fewestToCover(v);
    }

    public int part() {
        if (task.rowCount > PART_SIDE || task.columnCount > PART_SIDE) {
            return finding(LONG);
        }
        // The ENDS of a talk are such blocks, and on so few rows and columns no blocks but those of a talk do
        // better: PartsTest has tried all tables.
        return blocks.fewestEnds(marks.allRows, marks.allColumns);
    }

    public int swing() {
        return scales.greatestDifference();
    }

    public int wrong(int b) {
        if (b < 0 || b > MOST_WRONG_BITS) {
            return finding(BEYOND);
        }
        return scales.leastLoss(b);
    }

    // ---- what is told is judged

    public int tell(int v) {
        if (judge.count >= MOST_WAITING) {
            return finding(FULL);
        }
        judge.take(v);
        return judge.count;
    }

    public int check() {
        int answer = judge.judgeTalk();
        judge.count = 0;
        return answer;
    }

    public int fools(int v) {
        int answer = isNoAnswer(v) ? BEYOND : judge.judgeFooling(v);
        judge.count = 0;
        return answer < 0 ? finding(answer) : answer;
    }

    // ---- slots

    public int keep(int slot) {
        if (noSlot(slot)) {
            return finding(BEYOND);
        }
        if (slots[slot] == null) {
            slots[slot] = new Task();
        }
        slots[slot].become(task);
        return task.findKind();
    }

    public int bring(int slot) {
        if (noSlot(slot)) {
            return finding(BEYOND);
        }
        if (slots[slot] == null) {
            return finding(NONE);
        }
        history.push(task);
        task.become(slots[slot]);
        takeNewPlaces();
        return task.size();
    }

    public int as(int slot, int kind) {
        if (noSlot(slot) || kind < TASK_KIND || kind > LOOSE_KIND) {
            return finding(BEYOND);
        }
        if (slots[slot] == null) {
            return finding(NONE);
        }
        if (!isUnder(slots[slot].findKind(), kind)) {
            return finding(KIND);
        }
        return slots[slot].count(1);
    }

    public int same(int slot) {
        if (noSlot(slot)) {
            return finding(BEYOND);
        }
        if (slots[slot] == null) {
            return finding(NONE);
        }
        return likeness.isReordered(task, slots[slot]) ? 1 : 0;
    }

    public int undo() {
        if (history.count == 0) {
            return finding(NONE);
        }
        history.pop(task);
        takeNewPlaces();
        return history.count;
    }

    public int told(int what) {
        switch (what) {
            case 0:
                return task.rowCount;
            case 1:
                return task.columnCount;
            case 2:
                return task.count(1);
            case 3:
                return task.count(OPEN);
            case 4:
                return judge.count;
            case 5:
                return talk.count;
            case 6:
                return findings;
            default:
                return finding(BEYOND);
        }
    }

    private int finding(int answer) {
        findings++;
        return answer;
    }

    // All that was worked out from the places before is void.
    private void takeNewPlaces() {
        marks.read(task);
        blocks.forget();
        scales.forget();
        talk.forget();
    }

    private static boolean noSheet(int s) {
        return s < 0 || s >= SHEETS;
    }

    private static boolean noSlot(int slot) {
        return slot < 0 || slot >= SLOTS;
    }

    private static boolean isNoAnswer(int v) {
        return v != 0 && v != 1;
    }

    private static boolean isUnder(int kind, int asked) {
        return asked == TASK_KIND || asked == kind || (asked == WHOLE_KIND && kind == SQUARE_KIND);
    }

    // The number of the only member of a set: 0 of 1, 1 of 2, 2 of 4.
    private static int memberOf(int single) {
        return Integer.bitCount(single - 1);
    }

    private static int lowestOf(int set) {
        return set & -set;
    }

    private static int blockAt(int rows, int columns) {
        return ROW_STEP * rows + COLUMN_STEP * columns;
    }

    /** A table with its weights; place (i, j) stands at 5 * i + j whatever the size, as fools() numbers them. */
    private static final class Task {
        int rowCount = 1;
        int columnCount = 1;
        final int[] places = new int[PLACES];
        final int[] weights = new int[PLACES];

        Task() {
            Arrays.fill(weights, 1);
        }

        int size() {
            return rowCount * columnCount;
        }

        boolean has(int row, int column) {
            return row >= 0 && row < rowCount && column >= 0 && column < columnCount;
        }

        void clear(int rows, int columns) {
            rowCount = rows;
            columnCount = columns;
            Arrays.fill(places, 0);
            Arrays.fill(weights, 1);
        }

        void become(Task other) {
            rowCount = other.rowCount;
            columnCount = other.columnCount;
            System.arraycopy(other.places, 0, places, 0, PLACES);
            System.arraycopy(other.weights, 0, weights, 0, PLACES);
        }

        int count(int v) {
            int found = 0;
            for (int i = 0; i < rowCount; i++) {
                for (int j = 0; j < columnCount; j++) {
                    if (places[SIDE * i + j] == v) {
                        found++;
                    }
                }
            }
            return found;
        }

        int findKind() {
            if (count(OPEN) > 0) {
                return LOOSE_KIND;
            }
            return rowCount == columnCount ? SQUARE_KIND : WHOLE_KIND;
        }

        void fillByRule(int rule) {
            for (int i = 0; i < rowCount; i++) {
                for (int j = 0; j < columnCount; j++) {
                    places[SIDE * i + j] = byRule(rule, i, j);
                }
            }
        }

        private static int byRule(int rule, int i, int j) {
            int common = Integer.bitCount(i & j);
            int distance = Math.abs(i - j);
            switch (rule) {
                case 0:
                    return i == j ? 1 : 0;
                case 1:
                    return i < j ? 1 : 0;
                case 2:
                    return common == 0 ? 1 : 0;
                case 3:
                    return common & 1;
                default:
                    return distance <= 1 ? 1 : distance == 2 ? OPEN : 0;
            }
        }

        void fillFrom(Sheet source) {
            int next = 0;
            for (int i = 0; i < rowCount; i++) {
                for (int j = 0; j < columnCount; j++) {
                    places[SIDE * i + j] = next < source.count ? source.numbers[next] : OPEN;
                    next++;
                }
            }
        }

        void swapSides() {
            for (int i = 0; i < SIDE; i++) {
                for (int j = 0; j < i; j++) {
                    swap(places, SIDE * i + j, SIDE * j + i);
                    swap(weights, SIDE * i + j, SIDE * j + i);
                }
            }
            int rows = rowCount;
            rowCount = columnCount;
            columnCount = rows;
        }

        private static void swap(int[] numbers, int one, int two) {
            int kept = numbers[one];
            numbers[one] = numbers[two];
            numbers[two] = kept;
        }

        void swapAnswers() {
            for (int i = 0; i < rowCount; i++) {
                for (int j = 0; j < columnCount; j++) {
                    int at = SIDE * i + j;
                    if (places[at] != OPEN) {
                        places[at] = 1 - places[at];
                    }
                }
            }
        }

        int countUnlike(boolean ofColumns) {
            int lines = ofColumns ? columnCount : rowCount;
            int found = 0;
            for (int line = 0; line < lines; line++) {
                boolean isNew = true;
                for (int earlier = 0; earlier < line; earlier++) {
                    isNew = isNew && !areAlike(line, earlier, ofColumns);
                }
                if (isNew) {
                    found++;
                }
            }
            return found;
        }

        private boolean areAlike(int line, int other, boolean ofColumns) {
            int length = ofColumns ? rowCount : columnCount;
            int step = ofColumns ? SIDE : 1;
            int start = ofColumns ? line : SIDE * line;
            int otherStart = ofColumns ? other : SIDE * other;
            for (int at = 0; at < length; at++) {
                if (places[start + step * at] != places[otherStart + step * at]) {
                    return false;
                }
            }
            return true;
        }

        int findRank(boolean fractions) {
            int[] grid = Arrays.copyOf(places, PLACES);
            int rank = 0;
            for (int column = 0; column < columnCount && rank < rowCount; column++) {
                int pivot = findPivot(grid, rank, column);
                if (pivot < rowCount) {
                    for (int j = 0; j < columnCount; j++) {
                        swap(grid, SIDE * pivot + j, SIDE * rank + j);
                    }
                    clearBelow(grid, rank, column, fractions);
                    rank++;
                }
            }
            return rank;
        }

        private int findPivot(int[] grid, int firstRow, int column) {
            int row = firstRow;
            while (row < rowCount && grid[SIDE * row + column] == 0) {
                row++;
            }
            return row;
        }

        // Rows are multiplied crosswise, so that nothing is divided; from 0s and 1s no number of five rows
        // comes above 2 to the 15.
        private void clearBelow(int[] grid, int top, int column, boolean fractions) {
            int head = grid[SIDE * top + column];
            for (int row = top + 1; row < rowCount; row++) {
                int factor = grid[SIDE * row + column];
                for (int j = 0; j < columnCount; j++) {
                    int at = SIDE * row + j;
                    int number = grid[at] * head - grid[SIDE * top + j] * factor;
                    grid[at] = fractions ? number : number & 1;
                }
            }
        }
    }

    /** A row of numbers; of 0 bits it is MISSING. */
    private static final class Sheet {
        int bits;
        int count;
        final int[] numbers = new int[SHEET_NUMBERS];

        boolean isMissing() {
            return bits == 0;
        }

        void reset(int newBits, int newCount) {
            bits = newBits;
            count = newCount;
            Arrays.fill(numbers, 0);
        }

        void set(int i, int v) {
            numbers[i] = bits == 32 ? v : v & ((1 << bits) - 1);
        }

        boolean hasRun(int from, int n) {
            return from >= 0 && n >= 0 && from <= count - n;
        }

        boolean holdsPlaces() {
            for (int i = 0; i < count; i++) {
                if (numbers[i] < 0 || numbers[i] > OPEN) {
                    return false;
                }
            }
            return true;
        }
    }

    /** The latest tasks that can come back, the oldest one written over when there is no room. */
    private static final class History {
        final Task[] tasks = new Task[MOST_UNDONE];
        int next;
        int count;

        History() {
            for (int i = 0; i < MOST_UNDONE; i++) {
                tasks[i] = new Task();
            }
        }

        void push(Task task) {
            tasks[next].become(task);
            next = next + 1 == MOST_UNDONE ? 0 : next + 1;
            count = Math.min(count + 1, MOST_UNDONE);
        }

        void pop(Task task) {
            next = next == 0 ? MOST_UNDONE - 1 : next - 1;
            count--;
            task.become(tasks[next]);
        }
    }

    /** For each set the SECOND sets of its partings, the least first: those of a set stand from[set] on. */
    private static final class Partings {
        // Each of 5 members is FIRST, SECOND or out, the lowest one of the set FIRST, and SECOND not empty.
        static final int ALL = 90;
        final int[] from = new int[SETS + 1];
        final int[] seconds = new int[ALL];

        Partings() {
            int count = 0;
            for (int set = 0; set < SETS; set++) {
                from[set] = count;
                int rest = set & (set - 1);
                for (int second = 1; second <= rest && count < ALL; second++) {
                    if ((second & rest) == second) {
                        seconds[count] = second;
                        count++;
                    }
                }
            }
            from[SETS] = count;
        }
    }

    /** The columns with a 1, and with a 0, of each set of rows: EVEN is asked of very many blocks. */
    private static final class Marks {
        int allRows;
        int allColumns;
        final int[] ones = new int[SETS];
        final int[] zeros = new int[SETS];

        void read(Task task) {
            allRows = (1 << task.rowCount) - 1;
            allColumns = (1 << task.columnCount) - 1;
            for (int row = 0; row < task.rowCount; row++) {
                readRow(task, row);
            }
            for (int rows = 1; rows <= allRows; rows++) {
                int low = lowestOf(rows);
                if (rows != low) {
                    ones[rows] = ones[low] | ones[rows - low];
                    zeros[rows] = zeros[low] | zeros[rows - low];
                }
            }
        }

        private void readRow(Task task, int row) {
            int withOne = 0;
            int withZero = 0;
            for (int column = 0; column < task.columnCount; column++) {
                int v = task.places[SIDE * row + column];
                if (v == 1) {
                    withOne |= 1 << column;
                } else if (v == 0) {
                    withZero |= 1 << column;
                }
            }
            ones[1 << row] = withOne;
            zeros[1 << row] = withZero;
        }

        boolean hasBlock(int rows, int columns) {
            return rows >= 1 && rows <= allRows && columns >= 1 && columns <= allColumns;
        }

        boolean isEven(int rows, int columns) {
            return (ones[rows] & columns) == 0 || (zeros[rows] & columns) == 0;
        }

        int columnsWith(int v, int rows) {
            return v == 1 ? ones[rows] : zeros[rows];
        }

        boolean areInOneEvenBlock(int place, int other) {
            int rows = 1 << place / SIDE | 1 << other / SIDE;
            int columns = 1 << place % SIDE | 1 << other % SIDE;
            return isEven(rows, columns);
        }
    }

    /** LEAST BITS and FEWEST ENDS of all blocks, worked out at once, the smaller blocks ahead. */
    private static final class Blocks {
        private static final int FAR_TOO_MANY = 1000;
        private final Marks marks;
        private final Partings partings;
        private final int[] bitsOf = new int[BLOCKS];
        private final int[] endsOf = new int[BLOCKS];
        private final int[] classesOf = new int[SETS];
        private boolean known;

        Blocks(Marks marks, Partings partings) {
            this.marks = marks;
            this.partings = partings;
        }

        void forget() {
            known = false;
        }

        int leastBits(int rows, int columns) {
            learn();
            return bitsOf[blockAt(rows, columns)];
        }

        int fewestEnds(int rows, int columns) {
            learn();
            return endsOf[blockAt(rows, columns)];
        }

        private void learn() {
            if (known) {
                return;
            }
            for (int rows = 1; rows <= marks.allRows; rows++) {
                for (int columns = 1; columns <= marks.allColumns; columns++) {
                    learnBlock(rows, columns);
                }
            }
            known = true;
        }

        private void learnBlock(int rows, int columns) {
            int at = blockAt(rows, columns);
            if (marks.isEven(rows, columns)) {
                bitsOf[at] = 0;
                endsOf[at] = 1;
                return;
            }
            bitsOf[at] = FAR_TOO_MANY;
            endsOf[at] = FAR_TOO_MANY;
            tryPartings(at, rows, ROW_STEP);
            tryPartings(at, columns, COLUMN_STEP);
        }

        private void tryPartings(int at, int set, int step) {
            int bits = bitsOf[at];
            int ends = endsOf[at];
            for (int p = partings.from[set]; p < partings.from[set + 1]; p++) {
                int first = at - partings.seconds[p] * step;
                int second = at - (set - partings.seconds[p]) * step;
                bits = Math.min(bits, 1 + Math.max(bitsOf[first], bitsOf[second]));
                ends = Math.min(ends, endsOf[first] + endsOf[second]);
            }
            bitsOf[at] = bits;
            endsOf[at] = ends;
        }

        /** The parting of THE BEST TALK: its SECOND set, and SETS more when that is one of columns; 0: none. */
        int bestParting(int rows, int columns) {
            learn();
            int at = blockAt(rows, columns);
            int ofRows = firstBest(at, rows, ROW_STEP);
            if (ofRows != 0) {
                return ofRows;
            }
            int ofColumns = firstBest(at, columns, COLUMN_STEP);
            return ofColumns == 0 ? 0 : SETS + ofColumns;
        }

        private int firstBest(int at, int set, int step) {
            for (int p = partings.from[set]; p < partings.from[set + 1]; p++) {
                int first = at - partings.seconds[p] * step;
                int second = at - (set - partings.seconds[p]) * step;
                if (bitsOf[first] < bitsOf[at] && bitsOf[second] < bitsOf[at]) {
                    return partings.seconds[p];
                }
            }
            return 0;
        }

        int fewestClasses(boolean ofColumns) {
            int all = ofColumns ? marks.allColumns : marks.allRows;
            for (int set = 1; set <= all; set++) {
                int fewest = isPeaceful(set, ofColumns) ? 1 : FAR_TOO_MANY;
                for (int p = partings.from[set]; p < partings.from[set + 1] && fewest > 1; p++) {
                    int second = partings.seconds[p];
                    fewest = Math.min(fewest, classesOf[set - second] + classesOf[second]);
                }
                classesOf[set] = fewest;
            }
            return classesOf[all];
        }

        private boolean isPeaceful(int set, boolean ofColumns) {
            int others = ofColumns ? marks.allRows : marks.allColumns;
            for (int other = 1; other <= others; other <<= 1) {
                if (ofColumns ? !marks.isEven(other, set) : !marks.isEven(set, other)) {
                    return false;
                }
            }
            return true;
        }
    }

    /** The weights of all blocks, and what is lost at least in each of them by talks of a number of bits. */
    private static final class Scales {
        private static final int NOTHING_KNOWN = -1;
        private final Task task;
        private final Marks marks;
        private final Partings partings;
        private final int[] ones = new int[BLOCKS];
        private final int[] zeros = new int[BLOCKS];
        private final int[] loss = new int[BLOCKS];
        private final int[] lossOfAll = new int[MOST_WRONG_BITS + 1];
        private int bitsOfLoss = NOTHING_KNOWN;

        Scales(Task task, Marks marks, Partings partings) {
            this.task = task;
            this.marks = marks;
            this.partings = partings;
        }

        void forget() {
            bitsOfLoss = NOTHING_KNOWN;
        }

        int greatestDifference() {
            weighBlocks();
            int greatest = 0;
            for (int rows = 1; rows <= marks.allRows; rows++) {
                for (int columns = 1; columns <= marks.allColumns; columns++) {
                    int at = blockAt(rows, columns);
                    greatest = Math.max(greatest, Math.abs(ones[at] - zeros[at]));
                }
            }
            return greatest;
        }

        int leastLoss(int b) {
            weighBlocks();
            int all = blockAt(marks.allRows, marks.allColumns);
            for (int bits = bitsOfLoss + 1; bits <= b; bits++) {
                if (loss[all] > 0) {
                    allowOneBitMore();
                }
                lossOfAll[bits] = loss[all];
                bitsOfLoss = bits;
            }
            return lossOfAll[b];
        }

        private void weighBlocks() {
            if (bitsOfLoss != NOTHING_KNOWN) {
                return;
            }
            for (int rows = 1; rows <= marks.allRows; rows++) {
                for (int columns = 1; columns <= marks.allColumns; columns++) {
                    weighBlock(rows, columns);
                }
            }
            bitsOfLoss = 0;
            lossOfAll[0] = loss[blockAt(marks.allRows, marks.allColumns)];
        }

        private void weighBlock(int rows, int columns) {
            int at = blockAt(rows, columns);
            int lowRow = lowestOf(rows);
            int lowColumn = lowestOf(columns);
            if (rows != lowRow) {
                addUp(at, blockAt(lowRow, columns), blockAt(rows - lowRow, columns));
            } else if (columns != lowColumn) {
                addUp(at, blockAt(rows, lowColumn), blockAt(rows, columns - lowColumn));
            } else {
                int place = SIDE * memberOf(rows) + memberOf(columns);
                ones[at] = task.places[place] == 1 ? task.weights[place] : 0;
                zeros[at] = task.places[place] == 0 ? task.weights[place] : 0;
            }
            loss[at] = Math.min(ones[at], zeros[at]);
        }

        private void addUp(int at, int one, int two) {
            ones[at] = ones[one] + ones[two];
            zeros[at] = zeros[one] + zeros[two];
        }

        // The greater blocks go ahead, so that their parts still have the loss of a bit less; and since a bit
        // more never loses more, the loss of a bit less stands in for that with no bits.
        private void allowOneBitMore() {
            for (int rows = marks.allRows; rows >= 1; rows--) {
                for (int columns = marks.allColumns; columns >= 1; columns--) {
                    int at = blockAt(rows, columns);
                    if (loss[at] > 0) {
                        tryPartings(at, rows, ROW_STEP);
                        tryPartings(at, columns, COLUMN_STEP);
                    }
                }
            }
        }

        private void tryPartings(int at, int set, int step) {
            int least = loss[at];
            for (int p = partings.from[set]; p < partings.from[set + 1]; p++) {
                int first = at - partings.seconds[p] * step;
                int second = at - (set - partings.seconds[p]) * step;
                least = Math.min(least, loss[first] + loss[second]);
            }
            loss[at] = least;
        }
    }

    /** THE BEST TALK, its knots in their order; without a knot when none was made. */
    private static final class Talk {
        // The ENDS have no place in common.
        private static final int MOST_KNOTS = 2 * PLACES - 1;
        private final Marks marks;
        private final Blocks blocks;
        private final int[] whose = new int[MOST_KNOTS];
        private final int[] rowsOf = new int[MOST_KNOTS];
        private final int[] columnsOf = new int[MOST_KNOTS];
        private final int[] firsts = new int[MOST_KNOTS];
        private final int[] seconds = new int[MOST_KNOTS];
        private final int[] above = new int[MOST_KNOTS];
        int count;

        Talk(Marks marks, Blocks blocks) {
            this.marks = marks;
            this.blocks = blocks;
        }

        void forget() {
            count = 0;
        }

        void make() {
            count = 0;
            grow(marks.allRows, marks.allColumns, 0);
        }

        private int grow(int rows, int columns, int depth) {
            // There never are so many; but wordsFor() goes where this leads, and a knot is always there.
            if (count >= MOST_KNOTS) {
                return MOST_KNOTS - 1;
            }
            int k = count;
            count++;
            rowsOf[k] = rows;
            columnsOf[k] = columns;
            above[k] = depth;
            if (depth >= DEEPEST || marks.isEven(rows, columns)) {
                whose[k] = END;
                firsts[k] = (marks.ones[rows] & columns) != 0 ? 1 : 0;
                seconds[k] = NO_KNOT;
                return k;
            }
            int parting = blocks.bestParting(rows, columns);
            int second = parting % SETS;
            if (parting >= SETS) {
                whose[k] = OF_B;
                firsts[k] = grow(rows, columns - second, depth + 1);
                seconds[k] = grow(rows, second, depth + 1);
            } else {
                whose[k] = OF_A;
                firsts[k] = grow(rows - second, columns, depth + 1);
                seconds[k] = grow(second, columns, depth + 1);
            }
            return k;
        }

        int tellOf(int k, int what) {
            switch (what) {
                case 0:
                    return whose[k];
                case 1:
                    return rowsOf[k];
                case 2:
                    return columnsOf[k];
                case 3:
                    return firsts[k];
                case 4:
                    return seconds[k];
                default:
                    return above[k];
            }
        }

        int wordsFor(int row, int column) {
            int words = 1;
            int k = 0;
            for (int bit = 0; bit < DEEPEST && whose[k] != END; bit++) {
                int second = seconds[k];
                int inSecond = whose[k] == OF_A ? rowsOf[second] >> row & 1 : columnsOf[second] >> column & 1;
                words = 2 * words + inSecond;
                k = inSecond == 1 ? second : firsts[k];
            }
            return words;
        }
    }

    /** The numbers that wait, and what they are worth as a talk or as fooling places. */
    private static final class Judge {
        private final Task task;
        private final Marks marks;
        private final int[] numbers = new int[MOST_WAITING];
        int count;
        private int knotsRead;
        private int mostBits;

        Judge(Task task, Marks marks) {
            this.task = task;
            this.marks = marks;
        }

        void take(int v) {
            numbers[count] = v;
            count++;
        }

        int judgeTalk() {
            knotsRead = 0;
            mostBits = 0;
            if (!isRight(marks.allRows, marks.allColumns, 0)) {
                return FAULT + knotsRead;
            }
            return 2 * knotsRead < count ? MORE_TOLD : mostBits;
        }

        // A knot counts as read only when it is right: after a fault knotsRead is the faulty one's number.
        private boolean isRight(int rows, int columns, int depth) {
            int at = 2 * knotsRead;
            if (at + 1 >= count || depth > DEEPEST) {
                return false;
            }
            int owner = numbers[at];
            int told = numbers[at + 1];
            if (owner == END) {
                return endIsRight(rows, columns, told, depth);
            }
            if (owner != OF_A && owner != OF_B) {
                return false;
            }
            int parted = owner == OF_A ? rows : columns;
            int rest = parted & (parted - 1);
            if (told == 0 || (told & rest) != told) {
                return false;
            }
            knotsRead++;
            if (owner == OF_A) {
                return isRight(rows - told, columns, depth + 1) && isRight(told, columns, depth + 1);
            }
            return isRight(rows, columns - told, depth + 1) && isRight(rows, told, depth + 1);
        }

        private boolean endIsRight(int rows, int columns, int answer, int depth) {
            if (isNoAnswer(answer) || (marks.columnsWith(1 - answer, rows) & columns) != 0) {
                return false;
            }
            knotsRead++;
            mostBits = Math.max(mostBits, depth);
            return true;
        }

        int judgeFooling(int v) {
            for (int i = 0; i < count; i++) {
                if (numbers[i] < 0 || !task.has(numbers[i] / SIDE, numbers[i] % SIDE)) {
                    return BEYOND;
                }
            }
            for (int i = 0; i < count; i++) {
                if (task.places[numbers[i]] != v || liesWithEarlier(i)) {
                    return 0;
                }
            }
            return 1;
        }

        // A place that is told again lies with itself in the EVEN block of that place alone.
        private boolean liesWithEarlier(int i) {
            for (int earlier = 0; earlier < i; earlier++) {
                if (marks.areInOneEvenBlock(numbers[i], numbers[earlier])) {
                    return true;
                }
            }
            return false;
        }
    }

    /** The searches for fooling places and for covers; many places at once are told by bits. */
    private static final class Searches {
        private final Task task;
        private final Marks marks;
        private final int[] apart = new int[PLACES];
        private final int[] greatBlocks = new int[SETS];
        private int greatBlockCount;
        private int bestFooling;
        private int foolingPlaces;
        private int bestCover;

        Searches(Task task, Marks marks) {
            this.task = task;
            this.marks = marks;
        }

        int greatestFooling(int v) {
            int places = placesThatAre(v);
            for (int place = 0; place < PLACES; place++) {
                apart[place] = (places >> place & 1) == 1 ? placesApart(place, places) : 0;
            }
            bestFooling = 0;
            choose(0, places, 0);
            return bestFooling;
        }

        private int placesThatAre(int v) {
            int places = 0;
            for (int row = 0; row < task.rowCount; row++) {
                places |= marks.columnsWith(v, 1 << row) << SIDE * row;
            }
            return places;
        }

        private int placesApart(int place, int places) {
            int separate = 0;
            for (int other = 0; other < PLACES; other++) {
                if ((places >> other & 1) == 1 && !marks.areInOneEvenBlock(place, other)) {
                    separate |= 1 << other;
                }
            }
            return separate;
        }

        // Row by row: those of one row lie together, so that each row has one at most.
        private void choose(int row, int allowed, int chosen) {
            int chosenCount = Integer.bitCount(chosen);
            int bestCount = Integer.bitCount(bestFooling);
            if (chosenCount > bestCount) {
                bestFooling = chosen;
                bestCount = chosenCount;
            }
            if (row >= task.rowCount || chosenCount + task.rowCount - row <= bestCount) {
                return;
            }
            for (int column = 0; column < task.columnCount; column++) {
                int place = SIDE * row + column;
                if ((allowed >> place & 1) == 1) {
                    choose(row + 1, allowed & apart[place], chosen | 1 << place);
                }
            }
            choose(row + 1, allowed, chosen);
        }

        int fewestToCover(int v) {
            listGreatestBlocks(v);
            foolingPlaces = greatestFooling(v);
            // Each row on its own takes a block at most.
            bestCover = countRowsWith(v);
            coverRest(placesThatAre(v), 0);
            return bestCover;
        }

        private int countRowsWith(int v) {
            int count = 0;
            for (int row = 0; row < task.rowCount; row++) {
                if (marks.columnsWith(v, 1 << row) != 0) {
                    count++;
                }
            }
            return count;
        }

        // Blocks may overlap here: only those to which no row or column can be added are worth a look.
        private void listGreatestBlocks(int v) {
            greatBlockCount = 0;
            for (int rows = 1; rows <= marks.allRows; rows++) {
                int columns = marks.allColumns & ~marks.columnsWith(1 - v, rows);
                if (columns != 0 && rows == rowsWithout(1 - v, columns)) {
                    greatBlocks[greatBlockCount] = placesOf(rows, columns);
                    greatBlockCount++;
                }
            }
        }

        private int rowsWithout(int v, int columns) {
            int rows = 0;
            for (int row = 0; row < task.rowCount; row++) {
                if ((marks.columnsWith(v, 1 << row) & columns) == 0) {
                    rows |= 1 << row;
                }
            }
            return rows;
        }

        // No block has two fooling places: those still wanted tell when it can come to nothing better.
        private void coverRest(int wanted, int used) {
            if (wanted == 0) {
                bestCover = Math.min(bestCover, used);
                return;
            }
            if (used + Math.max(1, Integer.bitCount(wanted & foolingPlaces)) >= bestCover) {
                return;
            }
            int lowest = lowestOf(wanted);
            for (int b = 0; b < greatBlockCount; b++) {
                if ((greatBlocks[b] & lowest) != 0) {
                    coverRest(wanted & ~greatBlocks[b], used + 1);
                }
            }
        }

        private int placesOf(int rows, int columns) {
            int places = 0;
            for (int row = 0; row < task.rowCount; row++) {
                if ((rows >> row & 1) == 1) {
                    places |= columns << SIDE * row;
                }
            }
            return places;
        }
    }

    /**
     * Whether a task is another one with its rows and columns in another order. Rows are matched one by one;
     * the columns of both, cut below the rows matched so far and told as numbers, must be the same ones.
     */
    private static final class Likeness {
        private final int[][] cut = new int[SIDE + 1][SIDE];
        private final int[][] otherCut = new int[SIDE + 1][SIDE];

        boolean isReordered(Task task, Task other) {
            if (task.rowCount != other.rowCount || task.columnCount != other.columnCount) {
                return false;
            }
            for (int row = 0; row < task.rowCount; row++) {
                addRow(cut, row, task, row);
            }
            return matchRest(0, 0, other);
        }

        private boolean matchRest(int matched, int used, Task other) {
            if (matched >= other.rowCount) {
                return true;
            }
            for (int row = 0; row < other.rowCount; row++) {
                if ((used >> row & 1) == 0) {
                    addRow(otherCut, matched, other, row);
                    if (haveSameColumns(cut[matched + 1], otherCut[matched + 1], other.columnCount)
                            && matchRest(matched + 1, used | 1 << row, other)) {
                        return true;
                    }
                }
            }
            return false;
        }

        private static void addRow(int[][] cuts, int depth, Task task, int row) {
            for (int column = 0; column < task.columnCount; column++) {
                cuts[depth + 1][column] = 3 * cuts[depth][column] + task.places[SIDE * row + column];
            }
        }

        private static boolean haveSameColumns(int[] one, int[] two, int count) {
            int taken = 0;
            for (int i = 0; i < count; i++) {
                int match = findFree(two, count, taken, one[i]);
                if (match == count) {
                    return false;
                }
                taken |= 1 << match;
            }
            return true;
        }

        private static int findFree(int[] numbers, int count, int taken, int number) {
            int at = 0;
            while (at < count && (numbers[at] != number || (taken >> at & 1) == 1)) {
                at++;
            }
            return at;
        }
    }
}
