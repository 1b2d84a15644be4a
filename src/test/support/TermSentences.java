/** The terms of the document. */
final class TermSentences {
    private static final int TERMS = Sentences.TERMS;
    private final Sentences tests;

    TermSentences(Sentences tests) {
        this.tests = tests;
    }

    void test() {
        calls();
        findings();
        refusedActs();
        task();
        blocks();
        bitsAndEnds();
        bestTalk();
        slotsAndSheets();
    }

    private void calls() {
        tests.says(TERMS, "An object is used for at most 512 calls after it has been made; what later calls answer is free.",
            // The last one of 512.
            "400*turn()=1 80*told(9)=BEYOND 29*weigh(0,0,1)=1 talk()=1 told(6)=80 undo()=29",
            "table(5,5) rule(0) 509*talk() bits(31,31)=4", "table(5,5) rule(3) 120*tell(2) 388*put(4,4,2) wrong(0)=6 check()=100");
    }

    private void findings() {
        tests.says(TERMS, "FINDINGS are the answers below 0: BEYOND -1, MISSING -2, SIZE -3, KIND -4, FULL -5, NONE -6,"
                + " LONG -7, LEFT_OPEN -8.",
            "table(0,1)=-1 lay(0)=-2 sheet(0,8,-1)=-3 sheet(0,8,1) sheet(1,16,1) copy(0,0,1,0,1)=-4 undo()=-6"
                + " table(5,5) part()=-7 put(0,0,2) rank(true)=-8 120*tell(0) tell(0)=-5 told(6)=8");
        tests.says(TERMS, "Each act tells its findings in the order in which they are asked;",
            "sheet(4,9,-1)=BEYOND sheet(4,8,-1)=BEYOND sheet(0,9,-1)=BEYOND sheet(-1,0,LOW)=BEYOND sheet(0,0,-1)=SIZE",
            "write(4,99,0)=BEYOND write(0,99,0)=MISSING write(0,-1,0)=MISSING sheet(0,8,1) write(0,99,0)=BEYOND",
            "sheet(0,8,1) sheet(1,16,1) copy(4,-1,3,-1,-1)=BEYOND copy(3,-1,4,-1,-1)=BEYOND"
                + " copy(0,-1,3,-1,-1)=MISSING copy(3,-1,0,-1,-1)=MISSING copy(0,-1,1,-1,-1)=KIND"
                + " copy(0,0,1,0,2)=KIND copy(0,-1,0,-1,-1)=BEYOND",
            "lay(4)=BEYOND lay(0)=MISSING sheet(0,8,2) write(0,0,3) lay(0)=SIZE table(1,2) lay(0)=BEYOND",
            "knot(-1,9)=NONE said(-1,9)=NONE talk() knot(-1,9)=BEYOND said(-1,9)=BEYOND",
            "as(0,4)=BEYOND as(4,0)=BEYOND as(0,3)=NONE keep(0) as(0,3)=KIND");
    }

    private void refusedActs() {
        String sentence = "an act that answers a finding changes nothing, but where told.";
        tests.refuses(TERMS, sentence, Sentences.NEW,
            "table(0,1)=BEYOND", "put(1,0,1)=BEYOND", "place(1,0)=BEYOND", "weigh(0,0,10)=BEYOND", "rule(5)=BEYOND",
            "sheet(0,7,1)=BEYOND", "sheet(0,8,-1)=SIZE", "write(0,0,1)=MISSING", "copy(0,0,1,0,0)=MISSING",
            "lay(0)=MISSING", "bits(2,1)=BEYOND", "ends(1,2)=BEYOND", "knot(0,0)=NONE", "said(0,0)=NONE",
            "fool(2)=BEYOND", "cover(2)=BEYOND", "wrong(7)=BEYOND", "fools(2)=BEYOND", "keep(4)=BEYOND",
            "bring(0)=NONE", "as(0,0)=NONE", "same(0)=NONE", "undo()=NONE", "told(7)=BEYOND");
        tests.refuses(TERMS, sentence, Sentences.BUSY,
            "table(3,6)=BEYOND", "put(2,3,3)=BEYOND", "place(3,0)=BEYOND", "weigh(2,4,0)=BEYOND", "rule(-1)=BEYOND",
            "sheet(0,8,31)=BEYOND", "sheet(0,0,-1)=SIZE", "write(2,0,1)=MISSING", "write(0,5,1)=BEYOND",
            "copy(0,0,1,0,1)=KIND", "copy(0,0,2,0,1)=MISSING", "copy(0,0,0,1,5)=BEYOND", "lay(1)=BEYOND",
            "lay(2)=MISSING", "bits(8,1)=BEYOND", "ends(1,16)=BEYOND", "knot(0,6)=BEYOND", "said(0,4)=BEYOND",
            "rank(true)=LEFT_OPEN", "fool(-1)=BEYOND", "cover(-1)=BEYOND", "wrong(-1)=BEYOND", "keep(-1)=BEYOND",
            "bring(1)=NONE", "as(0,1)=KIND", "as(1,0)=NONE", "same(3)=NONE", "told(-1)=BEYOND");
        tests.refuses(TERMS, sentence, Sentences.FULL,
            "table(6,6)=BEYOND", "put(5,5,0)=BEYOND", "weigh(4,4,10)=BEYOND", "rule(5)=BEYOND", "sheet(3,0,31)=BEYOND",
            "write(3,30,0)=BEYOND", "copy(0,1,1,0,30)=BEYOND", "lay(0)=SIZE", "bits(32,31)=BEYOND",
            "ends(31,32)=BEYOND", "rank(false)=LEFT_OPEN", "part()=LONG", "tell(0)=FULL", "bring(4)=BEYOND",
            "as(3,3)=KIND", "same(4)=BEYOND");
    }

    private void task() {
        tests.says(TERMS, "A TASK is a table of R ROWS and C COLUMNS (1 to 5 each; one of each at first, 0):",
            "told(0)=1 told(1)=1 place(0,0)=0 place(0,1)=BEYOND place(1,0)=BEYOND",
            "table(1,1)=1 table(5,5)=1 table(1,5)=25 table(5,1)=5 table(0,5)=BEYOND table(5,0)=BEYOND"
                + " table(6,1)=BEYOND table(1,6)=BEYOND shows(0/0/0/0/0)");
        tests.says(TERMS, "each PLACE is 0, 1, or OPEN (2: either will do);",
            "put(0,0,0)=0 put(0,0,1)=0 put(0,0,2)=1 put(0,0,0)=2 put(0,0,3)=BEYOND put(0,0,-1)=BEYOND place(0,0)=0",
            "fill(20) bits(1,3)=0 tells(2,0) check()=0 tells(2,1) check()=100",
            "fill(21) bits(1,3)=0 tells(2,1) check()=0 tells(2,0) check()=100",
            "fill(22) bits(1,3)=0 tells(2,0) check()=0 tells(2,1) check()=0");
        tests.says(TERMS, "and has a WEIGHT, 0 to 9 (1 at first).",
            "weigh(0,0,0)=1 weigh(0,0,9)=0 weigh(0,0,10)=BEYOND weigh(0,0,-1)=BEYOND weigh(0,0,1)=9");
        tests.says(TERMS, "A sees the row, B the column.",
            "fill(01) talk()=3 knot(0,0)=1 once(false)=0 once(true)=1",
            "fill(0/1) talk()=3 knot(0,0)=0 once(false)=1 once(true)=0");
    }

    private void blocks() {
        tests.says(TERMS, "SETS of rows, of columns, are told by bits.",
            "fill(010/111) bits(1,2)=0 bits(1,3)=1 bits(1,5)=0 bits(1,7)=1 bits(2,7)=0 bits(3,2)=0 bits(3,5)=1",
            "fill(010/111) talk() knot(0,1)=3 knot(0,2)=7",
            "table(5,5) put(4,4,1) bits(15,31)=0 bits(31,15)=0 bits(16,31)=1 bits(31,16)=1 bits(16,16)=0");
        tests.says(TERMS, "A BLOCK is a set of rows and a set of columns, none of them empty;",
            "bits(0,1)=BEYOND bits(1,0)=BEYOND bits(0,0)=BEYOND bits(1,1)=0",
            "ends(0,1)=BEYOND ends(1,0)=BEYOND ends(0,0)=BEYOND ends(1,1)=1");
        tests.says(TERMS, "it is EVEN when it has not both a place that is 0 and one that is 1.",
            "fill(00/00) bits(3,3)=0", "fill(11/11) bits(3,3)=0", "fill(22/22) bits(3,3)=0", "fill(02/20) bits(3,3)=0",
            "fill(12/21) bits(3,3)=0", "fill(02/21) bits(3,3)=1", "fill(01/22) bits(3,3)=1", "fill(22/10) bits(3,3)=1");
        tests.says(TERMS, "PARTING a block: its rows (or its columns) into two sets, none empty:",
            "fill(0/1) tells(0,0,2,0,2,1) check()=100 tells(0,3) check()=100 tells(0,2,2,0,2,1) check()=1",
            "fill(01) tells(1,0,2,0,2,1) check()=100 tells(1,3) check()=100 tells(1,2,2,0,2,1) check()=1",
            "tells(0,1) check()=100 tells(1,1) check()=100");
        tests.says(TERMS, "the FIRST has the lowest one, the SECOND is what is left.",
            "fill(1/0/0) talk()=3 knot(1,1)=1 knot(2,1)=6", "fill(100) talk()=3 knot(1,2)=1 knot(2,2)=6",
            "fill(0/1/0) tells(0,6,2,0,0,2) check()=102 tells(0,6,2,0,0,4,2,1,2,0) check()=2",
            "fill(0/1/1) talk()=3 knot(1,1)=1 knot(2,1)=6", "fill(0/0/1/1/0) talk()=3 knot(1,1)=19 knot(2,1)=12");
    }

    private void bitsAndEnds() {
        tests.says(TERMS, "LEAST BITS of a block: 0 when it is EVEN,",
            "bits(1,1)=0 put(0,0,1) bits(1,1)=0 put(0,0,2) bits(1,1)=0", "fill(12/21) bits(3,3)=0",
            "table(5,5) bits(31,31)=0 turnAnswers() bits(31,31)=0");
        tests.says(TERMS, "else 1 more than the least, over all partings, of the greater one of both parts' LEAST BITS.",
            "fill(01) bits(1,3)=1", "fill(0/1) bits(3,1)=1", "fill(10/01) bits(3,3)=2", "fill(10/00) bits(3,3)=2",
            "fill(01010) bits(1,31)=1", "table(4,4) rule(0) bits(15,15)=3", "table(5,5) rule(3) bits(31,31)=4");
        tests.says(TERMS, "FEWEST ENDS: 1 when it is EVEN,",
            "ends(1,1)=1 put(0,0,1) ends(1,1)=1 put(0,0,2) ends(1,1)=1", "fill(12/21) ends(3,3)=1",
            "table(5,5) ends(31,31)=1 turnAnswers() ends(31,31)=1");
        tests.says(TERMS, "else the least, over all partings, of the sum of both parts' FEWEST ENDS.",
            "fill(01) ends(1,3)=2", "fill(0/1) ends(3,1)=2", "fill(10/01) ends(3,3)=4", "fill(10/00) ends(3,3)=3",
            "fill(01010) ends(1,31)=2", "fill(12/01) ends(3,3)=3", "table(4,4) rule(0) ends(15,15)=8");
    }

    private void bestTalk() {
        tests.says(TERMS, "THE BEST TALK of a task is a tree of KNOTS, each with a block: knot 0 has the whole table.",
            "talk()=1 knot(0,1)=1 knot(0,2)=1", "table(5,5) rule(0) talk() knot(0,1)=31 knot(0,2)=31",
            "table(2,4) talk()=1 knot(0,1)=3 knot(0,2)=15");
        tests.says(TERMS, "A knot whose block is EVEN is an END,",
            "talk()=1 knot(0,0)=2", "fill(22/22) talk()=1 knot(0,0)=2", "fill(12/21) talk()=1 knot(0,0)=2",
            "fill(01) talk()=3 knot(0,0)=1 knot(1,0)=2 knot(2,0)=2");
        tests.says(TERMS, "and its answer 1 if there is a 1 in it, else 0.",
            "fill(22) talk() knot(0,3)=0", "fill(21) talk() knot(0,3)=1", "fill(20) talk() knot(0,3)=0",
            "fill(00) talk() knot(0,3)=0", "fill(11) talk() knot(0,3)=1");
        tests.says(TERMS, "Another one has a parting: of those with which LEAST BITS of its block are reached the first one:",
            "fill(1/0/0) talk()=3 knot(0,4)=2 knot(2,1)=6", "fill(0/1/0) talk()=3 knot(2,1)=2",
            "fill(101/101) talk()=3 knot(0,0)=1 knot(2,2)=2",
            // With one part that is EVEN, and the other one as bad as the whole, they are not reached.
            "fill(22/01) talk()=3 knot(0,0)=1", "fill(01/22) talk()=3 knot(0,0)=1");
        tests.says(TERMS, "of rows ahead of columns, then by the SECOND set as a number, the least first;",
            "fill(10/01) talk()=7 knot(0,0)=0 knot(1,0)=1 knot(4,0)=1", "fill(0/2/1) talk()=3 knot(1,1)=3 knot(2,1)=4",
            "fill(021) talk()=3 knot(0,0)=1 knot(1,2)=3 knot(2,2)=4", "fill(0/1/2) talk()=3 knot(1,1)=5 knot(2,1)=2",
            "fill(012) talk()=3 knot(1,2)=5 knot(2,2)=2");
        tests.says(TERMS, "the two knots for FIRST and SECOND come behind it: that of the FIRST, with all that is below"
                + " it, ahead of that of the SECOND.",
            "fill(10/01) talk()=7 knot(0,3)=1 knot(0,4)=4 knot(1,3)=2 knot(1,4)=3 knot(4,3)=5 knot(4,4)=6"
                + " knot(0,5)=0 knot(1,5)=1 knot(2,5)=2 knot(3,5)=2 knot(4,5)=1 knot(5,5)=2 knot(6,5)=2");
        tests.says(TERMS, "At a knot whose rows are parted A says 0 for FIRST, 1 for SECOND, likewise B for columns.",
            "fill(10/01) talk() said(0,0)=4 said(0,1)=5 said(1,0)=6 said(1,1)=7", "fill(01) talk() said(0,0)=2 said(0,1)=3");
    }

    private void slotsAndSheets() {
        tests.says(TERMS, "SLOTS 0 to 3 keep tasks,",
            "keep(0)=2 keep(1)=2 keep(2)=2 keep(3)=2 keep(-1)=BEYOND keep(4)=BEYOND",
            "fill(012) weigh(0,2,7) keep(0)=3 table(1,1) put(0,0,1) keep(3)=2 bring(0)=3 shows(012) weighing(117)"
                + " bring(3)=1 shows(1)");
        tests.says(TERMS, "of a KIND: 0 TASK, 1 WHOLE under TASK (no place is OPEN), 2 SQUARE under WHOLE (as many rows"
                + " as columns), 3 LOOSE under TASK (some place is OPEN):",
            "fill(01) keep(0)=1 as(0,0)=1 as(0,1)=1 as(0,2)=KIND as(0,3)=KIND",
            "fill(01/10) keep(0)=2 as(0,0)=2 as(0,1)=2 as(0,2)=2 as(0,3)=KIND",
            "fill(02) keep(0)=3 as(0,0)=0 as(0,1)=KIND as(0,2)=KIND as(0,3)=0");
        tests.says(TERMS, "the last of these that it is.",
            "keep(0)=2", "fill(02/20) keep(0)=3 as(0,2)=KIND", "put(0,0,2) keep(0)=3", "fill(01/10) keep(0)=2",
            "fill(01/10/00) keep(0)=1");
        tests.says(TERMS, "SHEETS 0 to 3 are rows of up to 30 numbers of 8, 16 or 32 bits,",
            "sheet(0,8,30)=30 sheet(1,16,30)=30 sheet(2,32,30)=30 sheet(3,8,0)=0 sheet(4,8,1)=BEYOND"
                + " sheet(-1,8,1)=BEYOND sheet(0,8,31)=BEYOND write(0,29,1)=0 write(0,30,1)=BEYOND",
            "sheet(0,7,1)=BEYOND sheet(0,9,1)=BEYOND sheet(0,15,1)=BEYOND sheet(0,17,1)=BEYOND sheet(0,31,1)=BEYOND"
                + " sheet(0,33,1)=BEYOND sheet(0,24,1)=BEYOND sheet(0,64,1)=BEYOND lay(0)=MISSING");
        tests.says(TERMS, "or MISSING (all, at first).",
            "lay(0)=MISSING lay(1)=MISSING lay(2)=MISSING lay(3)=MISSING write(0,0,0)=MISSING write(3,0,0)=MISSING",
            "sheet(0,8,0)=0 lay(0)=0", "sheet(0,8,1)=1 sheet(0,0,1)=0 lay(0)=MISSING");
    }
}
