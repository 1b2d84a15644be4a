/** Promises 1 to 9: a new object, and its table. */
final class TableSentences {
    private static final String ONES = "11111/11111/11111/11111/11111";
    private static final String NONES = "00000/00000/00000/00000/00000";
    private static final String NINES = "99999/99999/99999/99999/99999";
    private final Sentences tests;

    TableSentences(Sentences tests) {
        this.tests = tests;
    }

    void test() {
        newObject();
        table();
        put();
        place();
        weigh();
        rule();
        turn();
        turnAnswers();
        unlike();
    }

    private void newObject() {
        tests.says(1, "One row, one column, a place that is 0;",
            "told(0)=1 told(1)=1 place(0,0)=0 place(0,1)=BEYOND place(1,0)=BEYOND",
            "told(2)=0 told(3)=0 told(4)=0 told(5)=0 told(6)=0 undo()=NONE", "weigh(0,0,1)=1", "table(1,1)=1");
        tests.says(1, "slots empty,",
            "bring(0)=NONE bring(1)=NONE bring(2)=NONE bring(3)=NONE",
            "as(0,0)=NONE as(1,0)=NONE as(2,0)=NONE as(3,0)=NONE",
            "same(0)=NONE same(1)=NONE same(2)=NONE same(3)=NONE");
        tests.says(1, "sheets MISSING,",
            "lay(0)=MISSING lay(1)=MISSING lay(2)=MISSING lay(3)=MISSING",
            "write(0,0,0)=MISSING write(1,0,0)=MISSING write(2,0,0)=MISSING write(3,0,0)=MISSING",
            "sheet(0,8,0) copy(0,0,1,0,0)=MISSING copy(0,0,2,0,0)=MISSING copy(3,0,0,0,0)=MISSING");
        tests.says(1, "no talk.", "knot(0,0)=NONE said(0,0)=NONE told(5)=0 talk()=1 knot(0,0)=2 said(0,0)=1 told(5)=1");
    }

    private void table() {
        tests.says(2, "A table of rows and columns, all places 0, all weights 1: how many places the one before had.",
            "table(1,1)=1 table(2,5)=1 table(3,4)=10 table(4,3)=12 table(5,2)=12 table(5,5)=10 table(1,5)=25 shows(00000)"
                + " table(5,1)=5 shows(0/0/0/0/0)",
            "fill(12/21) weights(90/34) table(2,2)=4 shows(00/00) weighing(11/11)",
            "fill(" + ONES + ") weights(" + NINES + ") table(1,1)=25 shows(0) weigh(0,0,1)=1 table(5,5)=1"
                + " shows(" + NONES + ") weighing(" + ONES + ")");
        String beyond = "BEYOND: one of the numbers is not 1 to 5.";
        for (String start : new String[] {Sentences.NEW, Sentences.BUSY, Sentences.FULL}) {
            tests.refuses(2, beyond, start, "table(0,1)=BEYOND", "table(1,0)=BEYOND", "table(6,5)=BEYOND",
                "table(5,6)=BEYOND", "table(0,0)=BEYOND", "table(6,6)=BEYOND", "table(-1,3)=BEYOND", "table(3,-1)=BEYOND",
                "table(LOW,1)=BEYOND", "table(1,LOW)=BEYOND", "table(HIGH,1)=BEYOND", "table(1,HIGH)=BEYOND");
        }
    }

    private void put() {
        tests.says(3, "A place becomes v: what it was.",
            "put(0,0,0)=0 put(0,0,1)=0 put(0,0,1)=1 put(0,0,2)=1 put(0,0,2)=2 put(0,0,0)=2 place(0,0)=0",
            "table(5,5) put(0,0,1)=0 put(4,4,2)=0 put(0,4,1)=0 put(4,0,2)=0 shows(10001/00000/00000/00000/20002)",
            "table(2,3) weights(234/567) put(1,2,1)=0 shows(000/001) weighing(234/567)");
        tests.refuses(3, "BEYOND: no such place,", Sentences.NEW, "put(0,1,1)=BEYOND", "put(1,0,1)=BEYOND",
            "put(-1,0,1)=BEYOND", "put(0,-1,1)=BEYOND");
        tests.refuses(3, "BEYOND: no such place,", Sentences.BUSY, "put(3,0,1)=BEYOND", "put(0,4,1)=BEYOND",
            "put(1,-1,1)=BEYOND", "put(-1,5,1)=BEYOND", "put(0,5,1)=BEYOND", "put(LOW,0,1)=BEYOND", "put(0,HIGH,1)=BEYOND");
        tests.refuses(3, "BEYOND: no such place,", Sentences.FULL, "put(5,0,1)=BEYOND", "put(0,5,1)=BEYOND",
            "put(5,5,1)=BEYOND", "put(-1,4,1)=BEYOND", "put(HIGH,HIGH,2)=BEYOND", "put(LOW,LOW,0)=BEYOND");
        tests.refuses(3, "or v is not 0 to 2.", Sentences.BUSY, "put(0,0,3)=BEYOND", "put(0,0,-1)=BEYOND",
            "put(2,3,HIGH)=BEYOND", "put(2,3,LOW)=BEYOND", "put(3,4,3)=BEYOND");
    }

    private void place() {
        tests.says(4, "A place.", "place(0,0)=0 put(0,0,2) place(0,0)=2",
            "fill(01201/11021/20110/00121/10211) place(0,0)=0 place(4,4)=1 place(0,4)=1 place(4,0)=1 place(2,0)=2");
        tests.asks(4, "A place.", Sentences.BUSY, "place(0,0)=1", "place(2,3)=0", "place(1,3)=2");
        tests.refuses(4, "BEYOND.", Sentences.NEW, "place(0,1)=BEYOND", "place(1,0)=BEYOND");
        tests.refuses(4, "BEYOND.", Sentences.BUSY, "place(3,0)=BEYOND", "place(0,4)=BEYOND", "place(-1,0)=BEYOND",
            "place(0,-1)=BEYOND", "place(-1,5)=BEYOND", "place(1,-1)=BEYOND", "place(LOW,HIGH)=BEYOND");
        tests.refuses(4, "BEYOND.", Sentences.FULL, "place(5,0)=BEYOND", "place(0,5)=BEYOND", "place(4,5)=BEYOND");
    }

    private void weigh() {
        tests.says(5, "A place's weight becomes w: what it was.",
            "weigh(0,0,0)=1 weigh(0,0,0)=0 weigh(0,0,9)=0 weigh(0,0,1)=9 weigh(0,0,5)=1",
            "fill(012/120) weights(901/234) weighing(901/234) shows(012/120)",
            "table(5,5) weigh(0,0,2)=1 weigh(4,4,3)=1 weigh(4,0,4)=1 weigh(0,4,5)=1"
                + " weighing(21115/11111/11111/11111/41113)",
            // The weight of an OPEN place is told, too.
            "put(0,0,2) weigh(0,0,9)=1 weigh(0,0,1)=9 swing()=0");
        tests.refuses(5, "BEYOND: no such place,", Sentences.NEW, "weigh(0,1,1)=BEYOND", "weigh(1,0,1)=BEYOND");
        tests.refuses(5, "BEYOND: no such place,", Sentences.BUSY, "weigh(3,0,1)=BEYOND", "weigh(0,4,1)=BEYOND",
            "weigh(-1,0,1)=BEYOND", "weigh(0,-1,1)=BEYOND", "weigh(1,-1,4)=BEYOND", "weigh(HIGH,LOW,4)=BEYOND");
        tests.refuses(5, "BEYOND: no such place,", Sentences.FULL, "weigh(5,0,1)=BEYOND", "weigh(0,5,1)=BEYOND");
        tests.refuses(5, "or w is not 0 to 9.", Sentences.BUSY, "weigh(0,0,10)=BEYOND", "weigh(0,0,-1)=BEYOND",
            "weigh(2,3,HIGH)=BEYOND", "weigh(2,3,LOW)=BEYOND", "weigh(3,4,10)=BEYOND");
    }

    private void rule() {
        tests.says(6, "All places (i the row, j the column) are told by a rule:",
            "fill(2222/2222) rule(1)=5 shows(0111/0011)", "fill(22/22/22/22) rule(1)=1 shows(01/00/00/00)",
            "fill(12/21) weights(34/56) rule(0)=2 shows(10/01) weighing(34/56)");
        tests.says(6, "0: 1 where i is j;", "rule(0)=1 shows(1)",
            "table(5,5) rule(0)=5 shows(10000/01000/00100/00010/00001)", "table(2,3) rule(0)=2 shows(100/010)");
        tests.says(6, "1: where i is below j;", "rule(1)=0 shows(0)",
            "table(5,5) rule(1)=10 shows(01111/00111/00011/00001/00000)", "table(3,2) rule(1)=1 shows(01/00/00)");
        tests.says(6, "2: where i and j have no bit in common;", "rule(2)=1 shows(1)",
            "table(5,5) rule(2)=17 shows(11111/10101/11001/10001/11110)");
        tests.says(6, "3: where they have an odd number of bits in common;", "rule(3)=0 shows(0)",
            "table(5,5) rule(3)=7 shows(00000/01010/00110/01100/00001)");
        tests.says(6, "4: where i and j are at most one apart, and OPEN where they are two apart:", "rule(4)=1 shows(1)",
            "table(5,5) rule(4)=13 shows(11200/11120/21112/02111/00211)", "table(5,1) rule(4)=2 shows(1/1/2/0/0)");
        tests.says(6, "how many places are 1 then.", "fill(22/11) rule(0)=2 told(2)=2", "fill(1) rule(1)=0 told(2)=0",
            "table(2,4) rule(4)=5 told(2)=5 told(3)=2");
        tests.refuses(6, "BEYOND: there is no such rule.", Sentences.NEW, "rule(-1)=BEYOND", "rule(5)=BEYOND");
        tests.refuses(6, "BEYOND: there is no such rule.", Sentences.BUSY, "rule(-1)=BEYOND", "rule(5)=BEYOND",
            "rule(HIGH)=BEYOND", "rule(LOW)=BEYOND");
    }

    private void turn() {
        tests.says(7, "Rows become columns: how many rows there are.",
            "turn()=1 shows(0)", "fill(012/110) turn()=3 shows(01/11/20) turn()=2 shows(012/110)",
            "fill(00012) turn()=5 shows(0/0/0/1/2) turn()=1 shows(00012)",
            "fill(01201/11021/20110/00121/10211) turn()=5 shows(01201/11000/20112/02121/11011)");
        tests.says(7, "(Weights too.)", "fill(012/110) weights(123/456) turn()=3 weighing(14/25/36)",
            "table(5,1) weights(1/2/3/4/5) turn()=1 weighing(12345)",
            "table(5,5) weights(12345/67890/98765/43210/55555) turn()=5 weighing(16945/27835/38725/49615/50505)");
    }

    private void turnAnswers() {
        tests.says(8, "Places that are 0 become 1, those that are 1 become 0: how many are 1 then.",
            "turnAnswers()=1 shows(1) turnAnswers()=0 shows(0)", "put(0,0,2) turnAnswers()=0 shows(2)",
            "fill(012/110) weights(123/456) turnAnswers()=2 shows(102/001) weighing(123/456) turnAnswers()=3",
            "table(5,5) turnAnswers()=25 shows(" + ONES + ") turnAnswers()=0 shows(" + NONES + ")",
            // Places that a smaller table has not are not counted.
            "table(5,5) turnAnswers()=25 table(2,2)=25 turnAnswers()=4 told(2)=4");
    }

    private void unlike() {
        tests.says(9, "How many unlike rows (columns) there are,",
            "unlike(false)=1 unlike(true)=1", "table(5,5) unlike(false)=1 unlike(true)=1 rule(0) unlike(false)=5 unlike(true)=5",
            "fill(01/10/01/10/11) unlike(false)=3 unlike(true)=2", "fill(010/010) unlike(false)=1 unlike(true)=2",
            "fill(0000/0000/0001) unlike(false)=2 unlike(true)=2");
        tests.says(9, "OPEN places told apart from others.",
            "fill(0/1/2) unlike(false)=3 unlike(true)=1", "fill(02/00/01/22) unlike(false)=4 unlike(true)=2",
            "fill(22/22) unlike(false)=1 unlike(true)=1", "fill(012) unlike(true)=3 unlike(false)=1");
        tests.asks(9, "How many unlike rows (columns) there are,", Sentences.BUSY, "unlike(false)=3", "unlike(true)=4");
    }
}
