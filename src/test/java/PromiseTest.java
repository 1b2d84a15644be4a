/** Each promise of the document by itself: ordinary inputs, the edges that it names, and wrong inputs. */
public final class PromiseTest {
    private static final int BEYOND = -1;
    private static final int MISSING = -2;
    private static final int SIZE = -3;
    private static final int KIND = -4;
    private static final int FULL = -5;
    private static final int NONE = -6;
    private static final int LONG = -7;
    private static final int LEFT_OPEN = -8;
    private static final int LOW = Integer.MIN_VALUE;
    private static final int HIGH = Integer.MAX_VALUE;

    private static int wrong = 0;
    private static int promise = 0;

    private static void due(String call, int got, int want) {
        if (got != want) {
            wrong++;
            System.out.println("promise " + promise + ": " + call + " answered " + got + ", due is " + want);
        }
    }

    /** A table from its rows, as "10" "02". */
    private static TalkBench of(String... rows) {
        TalkBench x = new TalkBench();
        fill(x, rows);
        return x;
    }

    private static void fill(TalkBench x, String... rows) {
        x.table(rows.length, rows[0].length());
        for (int i = 0; i < rows.length; i++) {
            for (int j = 0; j < rows[i].length(); j++) {
                x.put(i, j, rows[i].charAt(j) - '0');
            }
        }
    }

    private static TalkBench byRule(int rows, int columns, int rule) {
        TalkBench x = new TalkBench();
        x.table(rows, columns);
        x.rule(rule);
        return x;
    }

    private static void isTable(TalkBench x, String... rows) {
        due("told(0)", x.told(0), rows.length);
        due("told(1)", x.told(1), rows[0].length());
        for (int i = 0; i < rows.length; i++) {
            for (int j = 0; j < rows[i].length(); j++) {
                due("place(" + i + ", " + j + ")", x.place(i, j), rows[i].charAt(j) - '0');
            }
        }
    }

    private static void tell(TalkBench x, int... numbers) {
        for (int v : numbers) {
            x.tell(v);
        }
    }

    private static int check(TalkBench x, int... numbers) {
        tell(x, numbers);
        return x.check();
    }

    private static int fools(TalkBench x, int v, int... numbers) {
        tell(x, numbers);
        return x.fools(v);
    }

    public static void main(String[] args) {
        Runnable[] promises = {
            PromiseTest::newObject, PromiseTest::table, PromiseTest::put, PromiseTest::place, PromiseTest::weigh,
            PromiseTest::rule, PromiseTest::turn, PromiseTest::turnAnswers, PromiseTest::unlike, PromiseTest::sheet,
            PromiseTest::write, PromiseTest::copy, PromiseTest::lay, PromiseTest::bits, PromiseTest::ends,
            PromiseTest::talk, PromiseTest::knot, PromiseTest::said, PromiseTest::classes, PromiseTest::once,
            PromiseTest::rank, PromiseTest::fool, PromiseTest::cover, PromiseTest::part, PromiseTest::swing,
            PromiseTest::wrongly, PromiseTest::telling, PromiseTest::checking, PromiseTest::fooling, PromiseTest::keep,
            PromiseTest::bring, PromiseTest::as, PromiseTest::same, PromiseTest::undo, PromiseTest::told,
        };
        for (Runnable test : promises) {
            promise++;
            test.run();
        }
        System.out.println(wrong == 0 ? promise + " promises hold" : wrong + " answers are not as due");
        if (wrong != 0) {
            System.exit(1);
        }
    }

    private static void newObject() {
        TalkBench x = new TalkBench();
        isTable(x, "0");
        due("told(2)", x.told(2), 0);
        due("told(3)", x.told(3), 0);
        due("told(4)", x.told(4), 0);
        due("told(5)", x.told(5), 0);
        due("told(6)", x.told(6), 0);
        for (int s = 0; s < 4; s++) {
            due("bring(" + s + ")", x.bring(s), NONE);
            due("as(" + s + ", 0)", x.as(s, 0), NONE);
            due("same(" + s + ")", x.same(s), NONE);
            due("write(" + s + ", 0, 0)", x.write(s, 0, 0), MISSING);
            due("lay(" + s + ")", x.lay(s), MISSING);
        }
        due("knot(0, 0)", x.knot(0, 0), NONE);
        due("said(0, 0)", x.said(0, 0), NONE);
        due("undo()", x.undo(), NONE);
        due("weigh(0, 0, 1)", x.weigh(0, 0, 1), 1);
        due("bits(1, 1)", new TalkBench().bits(1, 1), 0);
        due("swing()", new TalkBench().swing(), 1);
    }

    private static void table() {
        TalkBench x = new TalkBench();
        due("table(2, 3)", x.table(2, 3), 1);
        isTable(x, "000", "000");
        x.put(1, 2, 1);
        x.weigh(1, 2, 7);
        due("table(5, 5)", x.table(5, 5), 6);
        due("table(2, 3)", x.table(2, 3), 25);
        isTable(x, "000", "000");
        due("weigh after table", x.weigh(1, 2, 4), 1);
        due("table(1, 5)", x.table(1, 5), 6);
        due("table(5, 1)", x.table(5, 1), 5);
        int[][] bad = {{0, 1}, {1, 0}, {6, 1}, {1, 6}, {-1, 3}, {3, -1}, {LOW, HIGH}, {HIGH, 2}};
        for (int[] b : bad) {
            due("table(" + b[0] + ", " + b[1] + ")", x.table(b[0], b[1]), BEYOND);
        }
        isTable(x, "0", "0", "0", "0", "0");
    }

    private static void put() {
        TalkBench x = of("00", "00", "00");
        due("put(2, 1, 2)", x.put(2, 1, 2), 0);
        due("put(2, 1, 1)", x.put(2, 1, 1), 2);
        due("put(2, 1, 0)", x.put(2, 1, 0), 1);
        due("put(2, 1, 1)", x.put(2, 1, 1), 0);
        int[][] bad = {{3, 0, 1}, {0, 2, 1}, {-1, 0, 1}, {0, -1, 1}, {0, 0, 3}, {0, 0, -1}, {LOW, LOW, LOW}, {HIGH, HIGH, 1}};
        for (int[] b : bad) {
            due("put(" + b[0] + ", " + b[1] + ", " + b[2] + ")", x.put(b[0], b[1], b[2]), BEYOND);
        }
        isTable(x, "00", "00", "01");
    }

    private static void place() {
        TalkBench x = of("012", "210");
        due("place(0, 2)", x.place(0, 2), 2);
        due("place(1, 1)", x.place(1, 1), 1);
        due("place(2, 0)", x.place(2, 0), BEYOND);
        due("place(0, 3)", x.place(0, 3), BEYOND);
        due("place(-1, 0)", x.place(-1, 0), BEYOND);
        due("place(0, -1)", x.place(0, -1), BEYOND);
        due("place(HIGH, LOW)", x.place(HIGH, LOW), BEYOND);
        due("told(6)", x.told(6), 5);
    }

    private static void weigh() {
        TalkBench x = of("01", "11");
        due("weigh(1, 0, 9)", x.weigh(1, 0, 9), 1);
        due("weigh(1, 0, 0)", x.weigh(1, 0, 0), 9);
        due("weigh(1, 0, 5)", x.weigh(1, 0, 5), 0);
        int[][] bad = {{2, 0, 1}, {0, 2, 1}, {-1, 0, 1}, {0, -1, 1}, {1, 0, 10}, {1, 0, -1}, {HIGH, 0, 1}};
        for (int[] b : bad) {
            due("weigh(" + b[0] + ", " + b[1] + ", " + b[2] + ")", x.weigh(b[0], b[1], b[2]), BEYOND);
        }
        due("weigh(1, 0, 1)", x.weigh(1, 0, 1), 5);
        isTable(x, "01", "11");
        due("swing()", x.swing(), 2);
        x.weigh(0, 0, 9);
        due("swing()", x.swing(), 9);
    }

    private static void rule() {
        TalkBench x = new TalkBench();
        x.table(5, 5);
        x.weigh(0, 0, 6);
        due("rule(0)", x.rule(0), 5);
        isTable(x, "10000", "01000", "00100", "00010", "00001");
        due("rule(1)", x.rule(1), 10);
        isTable(x, "01111", "00111", "00011", "00001", "00000");
        due("rule(2)", x.rule(2), 17);
        isTable(x, "11111", "10101", "11001", "10001", "11110");
        due("rule(3)", x.rule(3), 7);
        isTable(x, "00000", "01010", "00110", "01100", "00001");
        due("rule(4)", x.rule(4), 13);
        isTable(x, "11200", "11120", "21112", "02111", "00211");
        due("rule(-1)", x.rule(-1), BEYOND);
        due("rule(5)", x.rule(5), BEYOND);
        due("rule(HIGH)", x.rule(HIGH), BEYOND);
        isTable(x, "11200", "11120", "21112", "02111", "00211");
        due("weight after rule", x.weigh(0, 0, 1), 6);
        x.table(2, 4);
        due("rule(4)", x.rule(4), 5);
        isTable(x, "1120", "1112");
        due("rule(1)", x.rule(1), 5);
        isTable(x, "0111", "0011");
    }

    private static void turn() {
        TalkBench x = of("012", "110");
        x.weigh(0, 2, 7);
        x.weigh(1, 0, 3);
        due("turn()", x.turn(), 3);
        isTable(x, "01", "11", "20");
        due("weigh(2, 0, 1)", x.weigh(2, 0, 1), 7);
        due("weigh(0, 1, 1)", x.weigh(0, 1, 1), 3);
        due("turn()", x.turn(), 2);
        isTable(x, "012", "110");
        TalkBench y = byRule(5, 1, 1);
        due("turn()", y.turn(), 1);
        isTable(y, "00000");
        TalkBench z = of("01201", "11021", "20110", "00121");
        for (int i = 0; i < 20; i++) {
            z.weigh(i / 5, i % 5, i % 10);
        }
        due("turn()", z.turn(), 5);
        isTable(z, "0120", "1100", "2011", "0212", "1101");
        for (int i = 0; i < 20; i++) {
            due("weight of place " + i, z.weigh(i % 5, i / 5, 1), i % 10);
        }
    }

    private static void turnAnswers() {
        TalkBench x = of("012", "110");
        x.weigh(1, 1, 4);
        due("turnAnswers()", x.turnAnswers(), 2);
        isTable(x, "102", "001");
        due("weigh(1, 1, 4)", x.weigh(1, 1, 4), 4);
        due("turnAnswers()", x.turnAnswers(), 3);
        isTable(x, "012", "110");
        due("turnAnswers()", of("22").turnAnswers(), 0);
    }

    private static void unlike() {
        TalkBench x = of("010", "010", "012", "110");
        due("unlike(false)", x.unlike(false), 3);
        due("unlike(true)", x.unlike(true), 3);
        due("unlike(true)", of("0112", "0112").unlike(true), 3);
        due("unlike(false)", of("0112", "0112").unlike(false), 1);
        due("unlike(false)", of("2", "0", "1", "2", "0").unlike(false), 3);
        due("unlike(true)", new TalkBench().unlike(true), 1);
        due("unlike(false)", byRule(5, 5, 0).unlike(false), 5);
        due("unlike(true)", byRule(5, 3, 2).unlike(true), 3);
    }

    private static void sheet() {
        TalkBench x = new TalkBench();
        due("sheet(0, 8, 30)", x.sheet(0, 8, 30), 30);
        due("sheet(3, 16, 0)", x.sheet(3, 16, 0), 0);
        due("sheet(1, 32, 1)", x.sheet(1, 32, 1), 1);
        x.write(1, 0, 1);
        due("sheet(1, 32, 1)", x.sheet(1, 32, 1), 1);
        due("lay(1)", x.lay(1), 1);
        isTable(x, "0");
        due("sheet(1, 0, 5)", x.sheet(1, 0, 5), 0);
        due("lay(1)", x.lay(1), MISSING);
        due("sheet(4, 8, -1)", x.sheet(4, 8, -1), BEYOND);
        due("sheet(-1, 8, 1)", x.sheet(-1, 8, 1), BEYOND);
        due("sheet(0, 9, -1)", x.sheet(0, 9, -1), BEYOND);
        due("sheet(0, -8, 31)", x.sheet(0, -8, 31), BEYOND);
        due("sheet(0, 64, 3)", x.sheet(0, 64, 3), BEYOND);
        due("sheet(0, 8, -1)", x.sheet(0, 8, -1), SIZE);
        due("sheet(0, 0, -1)", x.sheet(0, 0, -1), SIZE);
        due("sheet(0, 0, LOW)", x.sheet(0, 0, LOW), SIZE);
        due("sheet(0, 0, 31)", x.sheet(0, 0, 31), BEYOND);
        due("sheet(0, 16, 31)", x.sheet(0, 16, 31), BEYOND);
        due("write(0, 29, 0)", x.write(0, 29, 0), 0);
        due("undo()", x.undo(), 0);
        due("undo()", x.undo(), NONE);
        due("write(0, 29, 0)", x.write(0, 29, 0), 0);
    }

    private static void write() {
        TalkBench x = new TalkBench();
        x.table(1, 3);
        x.sheet(0, 8, 3);
        due("write(0, 0, 257)", x.write(0, 0, 257), 0);
        due("write(0, 1, -254)", x.write(0, 1, -254), 0);
        due("write(0, 2, LOW)", x.write(0, 2, LOW), 0);
        due("lay(0)", x.lay(0), 3);
        isTable(x, "120");
        x.sheet(1, 16, 3);
        x.write(1, 0, 65537);
        x.write(1, 1, -65534);
        due("lay(1)", x.lay(1), 3);
        isTable(x, "120");
        x.write(1, 2, 257);
        due("lay(1)", x.lay(1), BEYOND);
        x.sheet(2, 32, 3);
        x.write(2, 0, 65537);
        due("lay(2)", x.lay(2), BEYOND);
        x.write(2, 0, -1);
        due("lay(2)", x.lay(2), BEYOND);
        x.write(2, 0, 1);
        due("lay(2)", x.lay(2), 3);
        due("write(4, 0, 0)", x.write(4, 0, 0), BEYOND);
        due("write(-1, 0, 0)", x.write(-1, 0, 0), BEYOND);
        due("write(3, 99, 0)", x.write(3, 99, 0), MISSING);
        due("write(2, 3, 0)", x.write(2, 3, 0), BEYOND);
        due("write(2, -1, 0)", x.write(2, -1, 0), BEYOND);
        x.sheet(3, 8, 0);
        due("write(3, 0, 0)", x.write(3, 0, 0), BEYOND);
    }

    private static void copy() {
        TalkBench x = new TalkBench();
        x.table(1, 5);
        x.sheet(0, 8, 5);
        x.sheet(1, 8, 5);
        x.write(0, 0, 1);
        x.write(0, 1, 2);
        due("copy(0, 0, 1, 3, 2)", x.copy(0, 0, 1, 3, 2), 2);
        x.lay(1);
        isTable(x, "00012");
        due("copy(0, 0, 0, 1, 4)", x.copy(0, 0, 0, 1, 4), 4);
        x.lay(0);
        isTable(x, "11200");
        due("copy(0, 1, 0, 0, 4)", x.copy(0, 1, 0, 0, 4), 4);
        x.lay(0);
        isTable(x, "12000");
        due("copy(0, 5, 1, 5, 0)", x.copy(0, 5, 1, 5, 0), 0);
        x.sheet(2, 16, 5);
        due("copy(4, 0, 3, 0, 0)", x.copy(4, 0, 3, 0, 0), BEYOND);
        due("copy(3, 0, -1, 0, 0)", x.copy(3, 0, -1, 0, 0), BEYOND);
        due("copy(0, -1, 3, 0, 99)", x.copy(0, -1, 3, 0, 99), MISSING);
        due("copy(3, 0, 2, 0, 1)", x.copy(3, 0, 2, 0, 1), MISSING);
        due("copy(0, -1, 2, 0, 1)", x.copy(0, -1, 2, 0, 1), KIND);
        int[][] bad = {{6, 0, 0}, {0, 6, 0}, {1, 0, 5}, {0, 1, 5}, {-1, 0, 1}, {0, -1, 1}, {0, 0, -1},
            {HIGH, 0, 1}, {0, HIGH, 1}, {1, 1, HIGH}, {LOW, LOW, LOW}, {0, 0, LOW}, {HIGH, HIGH, HIGH}};
        for (int[] b : bad) {
            due("copy(0, " + b[0] + ", 1, " + b[1] + ", " + b[2] + ")", x.copy(0, b[0], 1, b[1], b[2]), BEYOND);
        }
        x.lay(1);
        isTable(x, "00012");
    }

    private static void lay() {
        TalkBench x = new TalkBench();
        x.table(2, 2);
        x.weigh(0, 0, 5);
        x.sheet(0, 8, 3);
        x.write(0, 1, 1);
        x.write(0, 2, 2);
        due("lay(0)", x.lay(0), 3);
        isTable(x, "01", "22");
        due("weigh(0, 0, 1)", x.weigh(0, 0, 1), 5);
        x.sheet(1, 16, 0);
        due("lay(1)", x.lay(1), 0);
        isTable(x, "22", "22");
        x.sheet(2, 32, 5);
        x.write(2, 0, 3);
        due("lay(2)", x.lay(2), SIZE);
        x.table(1, 5);
        due("lay(2)", x.lay(2), BEYOND);
        isTable(x, "00000");
        due("lay(3)", x.lay(3), MISSING);
        due("lay(4)", x.lay(4), BEYOND);
        due("lay(-1)", x.lay(-1), BEYOND);
        due("undo()", x.undo(), 5);
    }

    private static void bits() {
        TalkBench x = of("10", "01");
        due("bits(3, 3)", x.bits(3, 3), 2);
        due("bits(1, 3)", x.bits(1, 3), 1);
        due("bits(3, 2)", x.bits(3, 2), 1);
        due("bits(2, 1)", x.bits(2, 1), 0);
        x.put(0, 1, 2);
        due("bits(3, 3)", x.bits(3, 3), 2);
        x.put(1, 0, 2);
        due("bits(3, 3)", x.bits(3, 3), 0);
        due("bits(7, 7)", byRule(3, 3, 1).bits(7, 7), 3);
        due("bits(31, 31)", byRule(5, 5, 0).bits(31, 31), 4);
        due("bits(31, 1)", byRule(5, 5, 0).bits(31, 1), 1);
        due("bits(3, 3)", byRule(1, 1, 0).bits(3, 3), BEYOND);
        int[][] bad = {{0, 1}, {1, 0}, {4, 1}, {1, 4}, {-1, 1}, {1, -1}, {5, 3}, {LOW, 1}, {HIGH, HIGH}};
        for (int[] b : bad) {
            due("bits(" + b[0] + ", " + b[1] + ")", x.bits(b[0], b[1]), BEYOND);
        }
    }

    private static void ends() {
        TalkBench x = of("10", "01");
        due("ends(3, 3)", x.ends(3, 3), 4);
        due("ends(1, 3)", x.ends(1, 3), 2);
        due("ends(2, 1)", x.ends(2, 1), 1);
        x.put(0, 1, 2);
        due("ends(3, 3)", x.ends(3, 3), 3);
        x.put(1, 0, 2);
        due("ends(3, 3)", x.ends(3, 3), 1);
        due("ends(7, 7)", of("110", "020", "011").ends(7, 7), 5);
        due("ends(31, 31)", byRule(5, 5, 0).ends(31, 31), 10);
        int[][] bad = {{0, 1}, {1, 0}, {4, 1}, {1, 4}, {-1, 1}, {1, -1}, {LOW, 1}, {HIGH, HIGH}};
        for (int[] b : bad) {
            due("ends(" + b[0] + ", " + b[1] + ")", x.ends(b[0], b[1]), BEYOND);
        }
    }

    private static void talk() {
        due("talk()", new TalkBench().talk(), 1);
        due("talk()", of("01").talk(), 3);
        due("talk()", of("10", "01").talk(), 7);
        due("talk()", of("12", "21").talk(), 1);
        due("talk()", byRule(4, 4, 0).talk(), 15);
        TalkBench x = of("01", "00");
        due("talk()", x.talk(), 5);
        due("talk()", x.talk(), 5);
        due("told(5)", x.told(5), 5);
    }

    private static void isKnot(TalkBench x, int k, int... due) {
        for (int what = 0; what < due.length; what++) {
            due("knot(" + k + ", " + what + ")", x.knot(k, what), due[what]);
        }
    }

    private static void knot() {
        TalkBench x = of("01", "00");
        x.talk();
        isKnot(x, 0, 0, 3, 3, 1, 4, 0);
        isKnot(x, 1, 1, 1, 3, 2, 3, 1);
        isKnot(x, 2, 2, 1, 1, 0, -100, 2);
        isKnot(x, 3, 2, 1, 2, 1, -100, 2);
        isKnot(x, 4, 2, 2, 3, 0, -100, 1);
        due("told(6)", x.told(6), 0);
        int[][] bad = {{5, 0}, {-1, 0}, {0, 6}, {0, -1}, {HIGH, 0}, {LOW, LOW}};
        for (int[] b : bad) {
            due("knot(" + b[0] + ", " + b[1] + ")", x.knot(b[0], b[1]), BEYOND);
        }
        TalkBench y = of("22", "21");
        y.talk();
        isKnot(y, 0, 2, 3, 3, 1, -100, 0);
        TalkBench z = of("101", "101");
        z.talk();
        isKnot(z, 0, 1, 3, 7, 1, 2, 0);
        isKnot(z, 1, 2, 3, 5, 1, -100, 1);
        isKnot(z, 2, 2, 3, 2, 0, -100, 1);
        voidTalks();
    }

    private static void voidTalks() {
        TalkBench x = of("10", "01");
        x.keep(0);
        x.sheet(0, 8, 4);
        x.talk();
        x.weigh(0, 0, 4);
        due("knot(0, 0) after weigh()", x.knot(0, 0), 0);
        due("undo of weigh()", x.undo() > 0 ? 1 : 0, 1);
        due("knot(0, 0) after undo()", x.knot(0, 0), NONE);
        due("knot(-1, 9)", x.knot(-1, 9), NONE);
        for (int act = 0; act < 7; act++) {
            due("talk()", x.talk() > 0 ? 1 : 0, 1);
            change(x, act, true);
            due("a finding of act " + act + " leaves the talk", x.knot(0, 5), 0);
            change(x, act, false);
            due("act " + act + " voids the talk", x.knot(0, 5), NONE);
            due("told(5)", x.told(5), 0);
            x.bring(0);
        }
        x.talk();
        x.keep(1);
        x.tell(3);
        x.check();
        x.write(0, 0, 1);
        due("knot(0, 5) after others", x.knot(0, 5), 0);
        TalkBench y = new TalkBench();
        y.talk();
        due("undo()", y.undo(), NONE);
        due("knot(0, 0) after no undo()", y.knot(0, 0), 2);
    }

    private static void change(TalkBench x, int act, boolean withFinding) {
        switch (act) {
            case 0: x.table(withFinding ? 0 : 2, 2); break;
            case 1: x.put(0, 0, withFinding ? 3 : x.place(0, 0)); break;
            case 2: x.rule(withFinding ? 5 : 0); break;
            case 3: x.lay(withFinding ? 1 : 0); break;
            case 4: x.bring(withFinding ? 3 : 0); break;
            case 5: if (!withFinding) x.turn(); break;
            default: if (!withFinding) x.turnAnswers();
        }
    }

    private static void said() {
        TalkBench x = of("01", "00");
        due("said(0, 0)", x.said(0, 0), NONE);
        due("said(9, 9)", x.said(9, 9), NONE);
        x.talk();
        due("said(0, 0)", x.said(0, 0), 4);
        due("said(0, 1)", x.said(0, 1), 5);
        due("said(1, 0)", x.said(1, 0), 3);
        due("said(1, 1)", x.said(1, 1), 3);
        int[][] bad = {{2, 0}, {0, 2}, {-1, 0}, {0, -1}, {HIGH, LOW}};
        for (int[] b : bad) {
            due("said(" + b[0] + ", " + b[1] + ")", x.said(b[0], b[1]), BEYOND);
        }
        x.weigh(0, 0, 9);
        due("said(0, 1)", x.said(0, 1), 5);
        x.put(0, 0, 0);
        due("said(0, 1)", x.said(0, 1), NONE);
        TalkBench y = new TalkBench();
        y.talk();
        due("said(0, 0)", y.said(0, 0), 1);
    }

    private static void classes() {
        TalkBench x = of("01", "21", "00");
        due("classes(false)", x.classes(false), 2);
        due("classes(true)", x.classes(true), 2);
        due("classes(false)", of("02", "20", "22").classes(false), 1);
        // Rows 0 and 1 agree, and rows 1 and 2, but not rows 0 and 2.
        due("classes(false)", of("0", "2", "1").classes(false), 2);
        due("classes(false)", byRule(5, 5, 0).classes(false), 5);
        due("classes(true)", byRule(5, 3, 0).classes(true), 3);
        due("classes(false)", byRule(5, 3, 0).classes(false), 4);
        // Five rows that quarrel in a ring: three sets.
        TalkBench ring = of("02221", "10222", "21022", "22102", "22210");
        due("classes(false)", ring.classes(false), 3);
        due("classes(true)", new TalkBench().classes(true), 1);
    }

    private static void once() {
        due("once(false)", new TalkBench().once(false), 0);
        due("once(false)", byRule(2, 2, 0).once(false), 1);
        due("once(true)", byRule(3, 3, 0).once(true), 2);
        due("once(false)", byRule(4, 4, 0).once(false), 2);
        due("once(true)", byRule(5, 5, 0).once(true), 3);
        due("once(false)", of("0", "1", "0", "1", "0").once(false), 1);
        due("once(true)", of("0", "1", "0", "1", "0").once(true), 0);
    }

    private static void rank() {
        TalkBench x = of("110", "011", "101");
        due("rank(false)", x.rank(false), 2);
        due("rank(true)", x.rank(true), 3);
        due("rank(true)", new TalkBench().rank(true), 0);
        due("rank(false)", of("0110", "0110", "1001").rank(false), 2);
        due("rank(true)", of("00", "00", "01").rank(true), 1);
        due("rank(true)", byRule(5, 5, 0).rank(true), 5);
        // All ones but on the diagonal: of fractions 5, modulo 2 the rows' sum is 0.
        TalkBench y = byRule(5, 5, 0);
        y.turnAnswers();
        due("rank(true)", y.rank(true), 5);
        due("rank(false)", y.rank(false), 4);
        due("rank(false)", byRule(5, 2, 2).rank(false), 2);
        x.put(2, 2, 2);
        due("rank(true)", x.rank(true), LEFT_OPEN);
        due("rank(false)", x.rank(false), LEFT_OPEN);
        due("told(6)", x.told(6), 2);
    }

    private static void fool() {
        TalkBench x = byRule(5, 5, 0);
        due("fool(1)", x.fool(1), 5);
        due("fool(0)", byRule(3, 3, 0).fool(0), 3);
        due("fool(1)", byRule(5, 5, 1).fool(1), 4);
        due("fool(0)", byRule(5, 5, 1).fool(0), 5);
        due("fool(1)", of("11", "11").fool(1), 1);
        due("fool(0)", of("11", "11").fool(0), 0);
        due("fool(1)", of("12", "01").fool(1), 2);
        due("fool(1)", of("12", "21").fool(1), 1);
        due("a row without", of("00", "10", "01").fool(1), 2);
        due("a row to be left out", of("122", "210", "201").fool(1), 2);
        due("fool(2)", x.fool(2), BEYOND);
        due("fool(-1)", x.fool(-1), BEYOND);
        due("fool(HIGH)", x.fool(HIGH), BEYOND);
    }

    private static void cover() {
        TalkBench x = byRule(5, 5, 0);
        due("cover(1)", x.cover(1), 5);
        due("cover(0)", x.cover(0), 4);
        due("cover(0)", byRule(3, 3, 0).cover(0), 3);
        due("cover(1)", of("00", "22").cover(1), 0);
        due("cover(0)", of("00", "22").cover(0), 1);
        // Blocks may overlap, and take OPEN places.
        due("cover(1)", of("110", "111", "011").cover(1), 2);
        due("cover(1)", of("12", "21").cover(1), 1);
        due("cover(1)", of("10", "01").cover(1), 2);
        due("cover(2)", x.cover(2), BEYOND);
        due("cover(-1)", x.cover(-1), BEYOND);
        due("cover(LOW)", x.cover(LOW), BEYOND);
    }

    private static void part() {
        due("part()", new TalkBench().part(), 1);
        due("part()", of("10", "01").part(), 4);
        due("part()", of("12", "21").part(), 1);
        // Five blocks round the OPEN place.
        due("part()", of("110", "020", "011").part(), 5);
        due("part()", byRule(4, 4, 0).part(), 8);
        // No block twice at a place: the ones, two blocks in cover(), are three here.
        due("part()", of("110", "111", "011").part(), 5);
        TalkBench x = byRule(4, 5, 0);
        due("part()", x.part(), LONG);
        x.turn();
        due("part()", x.part(), LONG);
        x.table(1, 4);
        due("part()", x.part(), 1);
        due("told(6)", x.told(6), 2);
    }

    private static void swing() {
        TalkBench x = of("10", "01");
        due("swing()", x.swing(), 1);
        x.weigh(0, 0, 3);
        x.weigh(1, 0, 2);
        x.weigh(1, 1, 5);
        due("swing()", x.swing(), 5);
        x.weigh(0, 1, 9);
        due("swing()", x.swing(), 9);
        due("swing()", of("22", "22").swing(), 0);
        TalkBench y = byRule(5, 5, 0);
        due("swing()", y.swing(), 15);
        y.turnAnswers();
        due("swing()", y.swing(), 15);
        y.table(5, 5);
        for (int i = 0; i < 25; i++) {
            y.weigh(i / 5, i % 5, 9);
        }
        due("swing()", y.swing(), 225);
        TalkBench z = of("02", "21");
        z.weigh(0, 0, 0);
        z.weigh(1, 1, 0);
        due("swing()", z.swing(), 0);
    }

    private static void wrongly() {
        TalkBench x = of("10", "01");
        x.weigh(0, 0, 3);
        x.weigh(1, 0, 2);
        x.weigh(1, 1, 5);
        due("wrong(2)", x.wrong(2), 0);
        due("wrong(0)", x.wrong(0), 3);
        due("wrong(1)", x.wrong(1), 3);
        x.weigh(0, 1, 0);
        due("wrong(0)", x.wrong(0), 2);
        due("wrong(1)", x.wrong(1), 2);
        x.weigh(1, 0, 0);
        due("wrong(0)", x.wrong(0), 0);
        TalkBench y = byRule(5, 5, 0);
        due("wrong(6)", y.wrong(6), 0);
        due("wrong(4)", y.wrong(4), 0);
        due("wrong(0)", y.wrong(0), 5);
        due("wrong(2)", y.wrong(2), 4);
        y.put(0, 0, 2);
        due("wrong(0)", y.wrong(0), 4);
        due("wrong(-1)", y.wrong(-1), BEYOND);
        due("wrong(7)", y.wrong(7), BEYOND);
        due("wrong(HIGH)", y.wrong(HIGH), BEYOND);
        due("wrong(6)", of("22", "22").wrong(6), 0);
        due("a row alone", of("01").wrong(1), 0);
        due("a column alone", of("0", "1").wrong(1), 0);
        due("a row alone", of("01").wrong(0), 1);
    }

    private static void telling() {
        TalkBench x = new TalkBench();
        for (int i = 1; i <= 120; i++) {
            due("tell(" + i + ")", x.tell(i * 1000 - 60000), i);
        }
        due("tell(0)", x.tell(0), FULL);
        due("tell(LOW)", x.tell(LOW), FULL);
        due("told(4)", x.told(4), 120);
        due("told(6)", x.told(6), 2);
        x.table(5, 5);
        due("told(4) after table()", x.told(4), 120);
        x.check();
        due("told(4)", x.told(4), 0);
        due("tell(0)", x.tell(0), 1);
    }

    private static void checking() {
        TalkBench x = of("10", "01");
        due("a right talk", check(x, 0, 2, 1, 2, 2, 1, 2, 0, 1, 2, 2, 0, 2, 1), 2);
        due("told(4)", x.told(4), 0);
        due("one number more", check(x, 0, 2, 1, 2, 2, 1, 2, 0, 1, 2, 2, 0, 2, 1, 0), 90);
        due("a knot more", check(x, 0, 2, 1, 2, 2, 1, 2, 0, 1, 2, 2, 0, 2, 1, 2, 0), 90);
        due("a wrong answer, and more", check(x, 0, 2, 1, 2, 2, 1, 2, 0, 1, 2, 2, 0, 2, 0, 2, 0), 106);
        due("none", check(x), 100);
        due("one alone", check(x, 2), 100);
        due("cut short", check(x, 0, 2, 1, 2, 2, 1, 2, 0, 1, 2, 2, 0), 106);
        due("cut short by one", check(x, 0, 2, 1, 2, 2, 1, 2), 103);
        due("against", check(x, 2, 1), 100);
        due("an owner of none", check(x, 3, 1), 100);
        due("an owner below 0", check(x, -1, 1), 100);
        due("SECOND empty", check(x, 0, 0), 100);
        due("SECOND with the lowest", check(x, 0, 1), 100);
        due("SECOND with all", check(x, 1, 3), 100);
        due("SECOND with another row", check(x, 0, 6), 100);
        due("SECOND below 0", check(x, 0, LOW), 100);
        due("SECOND of -2", check(x, 1, -2), 100);
        due("SECOND that FIRST has not", check(x, 0, 2, 0, 2), 101);
        due("an answer of 2", check(x, 0, 2, 1, 2, 2, 2), 102);
        due("told(6)", x.told(6), 0);
        due("most bits in FIRST", check(of("01", "00"), 0, 2, 1, 2, 2, 0, 2, 1, 2, 0), 2);
        due("most bits in SECOND", check(of("00", "01"), 0, 2, 2, 0, 1, 2, 2, 0, 2, 1), 2);
        TalkBench open = of("20", "22");
        due("an END that OPEN places allow", check(open, 0, 2, 2, 0, 2, 1), 1);
        due("EVEN, yet parted", check(open, 1, 2, 0, 2, 2, 1, 2, 1, 2, 0), 2);
        due("told at once", check(open, 2, 0), 0);
        TalkBench deep = byRule(5, 5, 0);
        deep.table(5, 5);
        due("the deepest talk", check(deep, 0, 30, 2, 0, 0, 28, 2, 0, 0, 24, 2, 0, 0, 16, 2, 0,
            1, 30, 2, 0, 1, 28, 2, 0, 1, 24, 2, 0, 1, 16, 2, 0, 2, 0), 8);
        due("deeper than that", check(deep, 0, 30, 2, 0, 0, 28, 2, 0, 0, 24, 2, 0, 0, 16, 2, 0,
            1, 30, 2, 0, 1, 28, 2, 0, 1, 24, 2, 0, 1, 16, 2, 0, 0, 16), 116);
        TalkBench best = byRule(5, 4, 4);
        int knots = best.talk();
        for (int k = 0; k < knots; k++) {
            int whose = best.knot(k, 0);
            best.tell(whose);
            best.tell(whose == 2 ? best.knot(k, 3) : best.knot(best.knot(k, 4), whose + 1));
        }
        due("THE BEST TALK told", best.check(), best.bits(31, 15));
    }

    private static void fooling() {
        TalkBench x = byRule(3, 3, 0);
        due("none", fools(x, 0), 1);
        due("the diagonal", fools(x, 1, 0, 6, 12), 1);
        due("in another order", fools(x, 1, 12, 0, 6), 1);
        due("told(4)", x.told(4), 0);
        due("one twice", fools(x, 1, 0, 6, 0), 0);
        due("not all 1", fools(x, 1, 0, 7), 0);
        due("not all 0", fools(x, 0, 1, 6), 0);
        due("zeros", fools(x, 0, 1, 7, 10), 1);
        due("zeros of a row", fools(x, 0, 1, 2), 0);
        due("no such column", fools(x, 1, 0, 3), BEYOND);
        due("no such row", fools(x, 1, 15), BEYOND);
        due("below 0", fools(x, 1, -1), BEYOND);
        due("far below 0", fools(x, 1, LOW), BEYOND);
        due("far above", fools(x, 1, HIGH), BEYOND);
        due("not v, then no place", fools(x, 1, 1, 99), BEYOND);
        due("told(4)", x.told(4), 0);
        due("v is 2", fools(x, 2, 0), BEYOND);
        due("v is -1", fools(x, -1), BEYOND);
        due("told(4)", x.told(4), 0);
        due("told(6)", x.told(6), 8);
        due("OPEN between", fools(of("12", "21"), 1, 0, 6), 0);
        due("OPEN and a 0 between", fools(of("12", "01"), 1, 0, 6), 1);
        due("an OPEN place", fools(of("12", "01"), 1, 1), 0);
    }

    private static void keep() {
        TalkBench x = byRule(3, 3, 0);
        due("keep(0)", x.keep(0), 2);
        x.put(1, 1, 2);
        due("keep(3)", x.keep(3), 3);
        x.table(2, 3);
        due("keep(1)", x.keep(1), 1);
        due("keep(0)", x.keep(0), 1);
        due("keep(4)", x.keep(4), BEYOND);
        due("keep(-1)", x.keep(-1), BEYOND);
        due("keep(HIGH)", x.keep(HIGH), BEYOND);
        due("bring(2)", x.bring(2), NONE);
        due("bring(3)", x.bring(3), 9);
        isTable(x, "100", "020", "001");
        due("keep(2)", new TalkBench().keep(2), 2);
    }

    private static void bring() {
        TalkBench x = of("01", "20", "11");
        x.weigh(2, 1, 8);
        x.keep(1);
        x.put(0, 0, 1);
        x.weigh(2, 1, 3);
        x.turn();
        due("bring(1)", x.bring(1), 6);
        isTable(x, "01", "20", "11");
        due("weigh(2, 1, 2)", x.weigh(2, 1, 2), 8);
        x.put(0, 0, 2);
        due("bring(1)", x.bring(1), 6);
        isTable(x, "01", "20", "11");
        due("weigh(2, 1, 8)", x.weigh(2, 1, 8), 8);
        due("bring(0)", x.bring(0), NONE);
        due("bring(4)", x.bring(4), BEYOND);
        due("bring(-1)", x.bring(-1), BEYOND);
        isTable(x, "01", "20", "11");
    }

    private static void as() {
        TalkBench x = byRule(3, 3, 0);
        x.keep(0);
        x.put(0, 1, 2);
        x.keep(1);
        fill(x, "011", "101");
        x.keep(2);
        int[][] due = {{3, 3, 3, KIND}, {3, KIND, KIND, 3}, {4, 4, KIND, KIND}, {NONE, NONE, NONE, NONE}};
        for (int slot = 0; slot < 4; slot++) {
            for (int kind = 0; kind < 4; kind++) {
                due("as(" + slot + ", " + kind + ")", x.as(slot, kind), due[slot][kind]);
            }
        }
        due("as(4, 0)", x.as(4, 0), BEYOND);
        due("as(-1, 0)", x.as(-1, 0), BEYOND);
        due("as(0, 4)", x.as(0, 4), BEYOND);
        due("as(3, -1)", x.as(3, -1), BEYOND);
        isTable(x, "011", "101");
    }

    private static void same() {
        TalkBench x = of("012", "110");
        x.keep(0);
        due("same(0)", x.same(0), 1);
        x.weigh(0, 0, 9);
        due("same(0)", x.same(0), 1);
        fill(x, "101", "120");
        due("rows and columns in another order", x.same(0), 1);
        fill(x, "102", "101");
        due("as many of each", x.same(0), 0);
        x.turn();
        due("of other sizes", x.same(0), 0);
        fill(x, "10000", "01000", "00100", "00010", "00001");
        x.keep(1);
        fill(x, "00001", "10000", "00010", "01000", "00100");
        due("another order", x.same(1), 1);
        fill(x, "11000", "01100", "00110", "00011", "10001");
        x.keep(2);
        fill(x, "11000", "11000", "00110", "00011", "00101");
        due("a ring of ten, and two rings", x.same(2), 0);
        fill(x, "10100", "01010", "00101", "10010", "01001");
        due("a ring of ten in another order", x.same(2), 1);
        fill(x, "01", "10");
        x.keep(2);
        fill(x, "01", "01");
        due("a row twice", x.same(2), 0);
        fill(x, "11", "10");
        due("another number of ones", x.same(2), 0);
        fill(x, "00", "00");
        x.keep(2);
        fill(x, "10", "10");
        due("another column", x.same(2), 0);
        fill(x, "000", "000");
        due("a column more", x.same(2), 0);
        fill(x, "00", "00", "00");
        due("a row more", x.same(2), 0);
        due("same(3)", x.same(3), NONE);
        due("same(4)", x.same(4), BEYOND);
        due("same(-1)", x.same(-1), BEYOND);
    }

    private static void undo() {
        TalkBench x = of("01", "20");
        due("undo of put()", x.undo(), 4);
        isTable(x, "01", "20");
        x.weigh(0, 0, 6);
        x.turn();
        x.turnAnswers();
        x.rule(0);
        x.keep(0);
        x.table(3, 1);
        x.bring(0);
        due("undo of bring()", x.undo(), 9);
        isTable(x, "0", "0", "0");
        due("undo of table()", x.undo(), 8);
        isTable(x, "10", "01");
        due("undo of rule()", x.undo(), 7);
        isTable(x, "12", "01");
        due("undo of turnAnswers()", x.undo(), 6);
        isTable(x, "02", "10");
        due("undo of turn()", x.undo(), 5);
        isTable(x, "01", "20");
        due("weight", x.weigh(0, 0, 2), 6);
        due("undo of weigh()", x.undo(), 5);
        due("weight", x.weigh(0, 0, 2), 6);
        x.undo();
        due("undo of weigh()", x.undo(), 4);
        due("weight", x.weigh(0, 0, 2), 1);
        onlyThirty();
        roundTheRing();
    }

    private static void roundTheRing() {
        TalkBench x = new TalkBench();
        x.table(5, 5);
        for (int i = 0; i < 50; i++) {
            x.put(i % 25 / 5, i % 5, i < 25 ? 1 : 2);
        }
        for (int i = 49; i >= 20; i--) {
            due("undo()", x.undo(), i - 20);
            due("what put " + i + " had changed", x.place(i % 25 / 5, i % 5), i < 25 ? 0 : 1);
            due("what put " + (i - 1) + " had told", x.place((i - 1) % 25 / 5, (i - 1) % 5), i <= 25 ? 1 : 2);
            if (i == 30) {
                x.rule(0);
                due("undo of rule()", x.undo(), 10);
            }
        }
        due("undo()", x.undo(), NONE);
    }

    private static void onlyThirty() {
        TalkBench x = new TalkBench();
        due("undo()", x.undo(), NONE);
        x.table(1, 2);
        x.put(0, 0, 1);
        x.put(0, 9, 1);
        for (int i = 0; i < 30; i++) {
            x.put(0, 1, 0);
        }
        for (int i = 29; i >= 0; i--) {
            due("undo()", x.undo(), i);
        }
        due("undo()", x.undo(), NONE);
        isTable(x, "10");
        x.sheet(0, 8, 1);
        x.lay(0);
        isTable(x, "02");
        due("undo of lay()", x.undo(), 0);
        isTable(x, "10");
    }

    private static void told() {
        TalkBench x = of("012", "212");
        int[] due = {2, 3, 2, 3, 0, 0, 0};
        for (int what = 0; what < 7; what++) {
            due("told(" + what + ")", x.told(what), due[what]);
        }
        due("told(7)", x.told(7), BEYOND);
        due("told(6)", x.told(6), 1);
        due("told(-1)", x.told(-1), BEYOND);
        due("told(HIGH)", x.told(HIGH), BEYOND);
        due("told(6)", x.told(6), 3);
        x.tell(4);
        due("told(4)", x.told(4), 1);
        int knots = x.talk();
        due("told(5)", x.told(5), knots);
        x.knot(knots - 1, 4);
        due("told(6) after -100", x.told(6), 3);
        x.put(0, 0, 0);
        due("told(5)", x.told(5), 0);
        x.rank(true);
        x.fools(5);
        x.undo();
        due("told(6)", x.told(6), 5);
    }
}
