import java.util.stream.IntStream;

/**
 * part() of all tables of 4 rows and 4 columns, against a search through all sets of places. A table whose rows
 * and columns are put in the order that makes it least, read row by row, has both in order: only such tables are
 * tried. Smaller tables are among them, with a row or a column more than once, which changes no answer.
 */
public final class PartsTest {
    private static final int SIDE = 4;
    private static final int LINES = 81;

    private final int[][] rows = new int[SIDE][SIDE];
    private final TalkBench bench = new TalkBench();
    private final byte[] fewest = new byte[1 << SIDE * SIDE];
    private final int[] seen = new int[1 << SIDE * SIDE];
    private final int[] blocks = new int[225];
    private int blockCount;
    private int tables;
    private int wrong;

    public static void main(String[] args) {
        PartsTest[] parts = IntStream.range(0, LINES).parallel().mapToObj(PartsTest::withFirstRow).toArray(PartsTest[]::new);
        int tables = 0;
        int wrong = 0;
        for (PartsTest part : parts) {
            tables += part.tables;
            wrong += part.wrong;
        }
        System.out.println(tables + " tables, " + wrong + " answers are not as due");
        if (wrong != 0 || tables == 0) {
            System.exit(1);
        }
    }

    private static PartsTest withFirstRow(int line) {
        PartsTest test = new PartsTest();
        test.bench.table(SIDE, SIDE);
        test.setRow(0, line);
        if (test.columnsAreInOrder(1)) {
            test.fillFrom(1, line);
        }
        return test;
    }

    private void fillFrom(int row, int least) {
        if (row == SIDE) {
            compare();
            return;
        }
        for (int line = least; line < LINES; line++) {
            setRow(row, line);
            if (columnsAreInOrder(row + 1)) {
                fillFrom(row + 1, line);
            }
        }
    }

    private void setRow(int row, int line) {
        int rest = line;
        for (int column = SIDE - 1; column >= 0; column--) {
            rows[row][column] = rest % 3;
            rest /= 3;
        }
    }

    private boolean columnsAreInOrder(int rowCount) {
        for (int column = 1; column < SIDE; column++) {
            for (int row = 0; row < rowCount; row++) {
                if (rows[row][column - 1] > rows[row][column]) {
                    return false;
                }
                if (rows[row][column - 1] < rows[row][column]) {
                    break;
                }
            }
        }
        return true;
    }

    private void compare() {
        tables++;
        for (int row = 0; row < SIDE; row++) {
            for (int column = 0; column < SIDE; column++) {
                bench.put(row, column, rows[row][column]);
            }
        }
        listBlocks();
        int want = fewestFor((1 << SIDE * SIDE) - 1);
        int got = bench.part();
        if (got != want) {
            wrong++;
            System.out.println(java.util.Arrays.deepToString(rows) + ": part() answered " + got + ", due is " + want);
        }
    }

    private void listBlocks() {
        blockCount = 0;
        for (int rowSet = 1; rowSet < 1 << SIDE; rowSet++) {
            for (int columnSet = 1; columnSet < 1 << SIDE; columnSet++) {
                int places = 0;
                int values = 0;
                for (int place = 0; place < SIDE * SIDE; place++) {
                    if ((rowSet >> place / SIDE & 1) == 1 && (columnSet >> place % SIDE & 1) == 1) {
                        places |= 1 << place;
                        values |= 1 << rows[place / SIDE][place % SIDE];
                    }
                }
                if ((values & 3) != 3) {
                    blocks[blockCount++] = places;
                }
            }
        }
    }

    private int fewestFor(int wanted) {
        if (wanted == 0) {
            return 0;
        }
        if (seen[wanted] != tables) {
            int highest = Integer.highestOneBit(wanted);
            int best = 99;
            for (int b = 0; b < blockCount; b++) {
                if ((blocks[b] & highest) != 0 && (blocks[b] & wanted) == blocks[b]) {
                    best = Math.min(best, 1 + fewestFor(wanted & ~blocks[b]));
                }
            }
            seen[wanted] = tables;
            fewest[wanted] = (byte) best;
        }
        return fewest[wanted];
    }
}
