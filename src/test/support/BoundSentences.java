/** Promises 21 to 26: bounds. */
final class BoundSentences {
    private static final String NINES = "99999/99999/99999/99999/99999";
    private final Sentences tests;

    BoundSentences(Sentences tests) {
        this.tests = tests;
    }

    void test() {
        rank();
        fool();
        cover();
        part();
        swing();
        wrong();
    }

    private void rank() {
        tests.says(21, "The rank of the table, as numbers modulo 2 (fractions: as fractions).",
            "rank(false)=0 rank(true)=0", "put(0,0,1) rank(false)=1 rank(true)=1",
            "fill(110/011/101) rank(false)=2 rank(true)=3", "table(5,5) rank(true)=0 rule(0) rank(false)=5 rank(true)=5",
            "table(5,5) turnAnswers()=25 rank(false)=1 rank(true)=1",
            // All ones but on the diagonal: modulo 2 the sum of the rows is 0.
            "table(5,5) rule(0) turnAnswers() rank(true)=5 rank(false)=4",
            "fill(00001/00001/00000) rank(true)=1 rank(false)=1", "fill(0/0/0/0/1) rank(true)=1 rank(false)=1",
            "fill(01/10/11/00/01) rank(true)=2 rank(false)=2");
        tests.asks(21, "The rank of the table, as numbers modulo 2 (fractions: as fractions).",
            "fill(110/011/101) talk()", "rank(false)=2", "rank(true)=3");
        tests.refuses(21, "LEFT_OPEN: some place is.", Sentences.BUSY, "rank(false)=LEFT_OPEN", "rank(true)=LEFT_OPEN");
        tests.refuses(21, "LEFT_OPEN: some place is.", "put(0,0,2)", "rank(false)=LEFT_OPEN", "rank(true)=LEFT_OPEN");
        tests.says(21, "LEFT_OPEN: some place is.",
            "table(5,5) put(4,4,2) rank(false)=LEFT_OPEN rank(true)=LEFT_OPEN put(4,4,1) rank(false)=1 rank(true)=1",
            // An OPEN place of a table before is none of this one.
            "table(5,5) put(4,4,2) table(2,2) rank(true)=0");
    }

    private void fool() {
        tests.says(22, "The greatest number of places that are v, of which no two lie in one EVEN block.",
            "fool(0)=1 fool(1)=0", "put(0,0,2) fool(0)=0 fool(1)=0", "table(5,5) fool(0)=1 fool(1)=0",
            "table(5,5) rule(0) fool(1)=5 fool(0)=3", "table(5,5) rule(1) fool(1)=4 fool(0)=5",
            "fill(11/11) fool(1)=1 fool(0)=0", "fill(12/21) fool(1)=1", "fill(12/01) fool(1)=2", "fill(10/01) fool(1)=2 fool(0)=2",
            // A row that has to be left out.
            "fill(122/210/201) fool(1)=2");
        tests.asks(22, "The greatest number of places that are v, of which no two lie in one EVEN block.", Sentences.BUSY,
            "fool(0)", "fool(1)");
        for (String start : new String[] {Sentences.NEW, Sentences.BUSY}) {
            tests.refuses(22, "BEYOND: v is not 0, 1.", start, "fool(2)=BEYOND", "fool(-1)=BEYOND", "fool(HIGH)=BEYOND",
                "fool(LOW)=BEYOND");
        }
    }

    private void cover() {
        tests.says(23, "The fewest EVEN blocks without a place that is not v, but OPEN ones, that together have all places that are v",
            "cover(0)=1", "table(5,5) cover(0)=1 rule(0) cover(1)=5 cover(0)=4", "fill(12/21) cover(1)=1",
            "fill(10/01) cover(1)=2 cover(0)=2", "fill(110/111/011) cover(1)=2 cover(0)=2",
            // An OPEN place need not be in a block, and may be in several.
            "fill(102/021) cover(1)=2", "fill(121/202) cover(0)=1 cover(1)=1", "fill(010/121/010) cover(1)=2",
            "table(3,3) rule(0) cover(0)=3 cover(1)=3", "fill(10/10/10) cover(1)=1 cover(0)=1", "fill(01/01/01) cover(1)=1 cover(0)=1",
            // No block of a table before is one of this one.
            "fill(1101/1110/1110) cover(1)=2 fill(10/11/11) cover(1)=2",
            "fill(0021/0102/0000) cover(0)=2 fill(010/120/110) cover(0)=2");
        tests.says(23, "(0, if there are none).", "cover(1)=0 put(0,0,2) cover(0)=0 cover(1)=0 put(0,0,1) cover(0)=0 cover(1)=1",
            "fill(11/12) cover(0)=0", "fill(00/20) cover(1)=0", "table(5,5) cover(1)=0 turnAnswers() cover(0)=0");
        tests.asks(23, "(0, if there are none).", Sentences.BUSY, "cover(0)", "cover(1)");
        for (String start : new String[] {Sentences.NEW, Sentences.BUSY}) {
            tests.refuses(23, "BEYOND: v is not 0, 1.", start, "cover(2)=BEYOND", "cover(-1)=BEYOND", "cover(HIGH)=BEYOND",
                "cover(LOW)=BEYOND");
        }
    }

    private void part() {
        tests.says(24, "The fewest EVEN blocks that together have each place just once.",
            "part()=1 put(0,0,2) part()=1 put(0,0,1) part()=1", "table(4,4) part()=1 turnAnswers() part()=1 rule(0) part()=8",
            "fill(01) part()=2", "fill(10/01) part()=4", "fill(12/21) part()=1", "fill(12/01) part()=3",
            // In cover() two blocks have the ones, both of them the place in the midst: not so here.
            "fill(110/111/011) cover(1)=2 part()=5", "fill(110/020/011) part()=5");
        tests.asks(24, "The fewest EVEN blocks that together have each place just once.", Sentences.BUSY, "part()");
        tests.refuses(24, "LONG: there are more than 4 rows or columns.", Sentences.FULL, "part()=LONG");
        for (String size : new String[] {"5,1", "1,5", "5,4", "4,5", "5,5"}) {
            tests.refuses(24, "LONG: there are more than 4 rows or columns.", "table(" + size + ") talk()", "part()=LONG");
        }
        tests.says(24, "LONG: there are more than 4 rows or columns.", "table(4,4) part()=1 table(4,1) part()=1 table(1,4) part()=1",
            "table(5,5) part()=LONG table(4,4) part()=1");
    }

    private void swing() {
        String sentence = "The greatest, over all blocks, of the difference of the weights of its places that are 1 and of"
            + " those that are 0, without its sign.";
        tests.says(25, sentence,
            "swing()=1 turnAnswers() swing()=1 weigh(0,0,9) swing()=9 turnAnswers() swing()=9 weigh(0,0,0) swing()=0",
            "fill(22/22) swing()=0", "put(0,0,2) weigh(0,0,9) swing()=0",
            "table(5,5) weights(" + NINES + ") swing()=225 turnAnswers() swing()=225",
            "table(4,4) rule(0) swing()=8 weigh(1,1,9) swing()=9", "fill(10/01) weights(31/25) swing()=5",
            // No rows but 0 and 2: more is 1 there than in all of them.
            "fill(11/00/11) swing()=4", "fill(101/101) swing()=4", "fill(00/11/00) swing()=4", "fill(21/12) swing()=2");
        tests.asks(25, sentence, Sentences.BUSY, "swing()");
    }

    private void wrong() {
        tests.says(26, "The least sum of weights of places at which a talk of at most b bits answers wrongly.",
            "wrong(0)=0 wrong(6)=0", "fill(01) wrong(0)=1 wrong(1)=0 wrong(6)=0", "fill(22/22) wrong(0)=0",
            "table(4,4) rule(0) wrong(0)=4 wrong(1)=4 wrong(2)=3 wrong(3)=0 wrong(4)=0 wrong(5)=0 wrong(6)=0",
            "table(4,4) rule(0) wrong(6)=0 wrong(3)=0 wrong(2)=3 wrong(1)=4 wrong(0)=4",
            "table(5,5) rule(0) wrong(4)=0 wrong(0)=5", "table(4,4) rule(0) weigh(1,1,9) wrong(1)=6");
        tests.says(26, "That of a block with 0 bits: the sum of weights of its places that are 1, or of those that are 0,"
                + " whichever is less;",
            "fill(10/01) weights(31/25) wrong(0)=3 turnAnswers() wrong(0)=3", "fill(10/01) weights(90/09) wrong(0)=0",
            "fill(12/20) weights(49/97) wrong(0)=4 turnAnswers() wrong(0)=4", "fill(01) weights(99) wrong(0)=9",
            "table(5,5) weights(" + NINES + ") wrong(0)=0 rule(1) wrong(0)=90");
        tests.says(26, "with b bits: the least of that with 0 bits and, over all partings, of the sums of both parts' with b - 1.",
            "fill(10/01) weights(31/25) wrong(1)=3 wrong(2)=0", "fill(10/01) weights(39/25) wrong(0)=8 wrong(1)=5 wrong(2)=0",
            "fill(0/1) weights(4/7) wrong(0)=4 wrong(1)=0", "fill(01) weights(47) wrong(0)=4 wrong(1)=0",
            "fill(01/00) weights(15/11) wrong(0)=3 wrong(1)=1 wrong(2)=0");
        tests.asks(26, "The least sum of weights of places at which a talk of at most b bits answers wrongly.", Sentences.BUSY,
            "wrong(0)", "wrong(3)", "wrong(6)=0");
        for (String start : new String[] {Sentences.NEW, Sentences.BUSY}) {
            tests.refuses(26, "BEYOND: b is not 0 to 6.", start, "wrong(-1)=BEYOND", "wrong(7)=BEYOND", "wrong(HIGH)=BEYOND",
                "wrong(LOW)=BEYOND");
        }
        tests.says(26, "BEYOND: b is not 0 to 6.", "wrong(0)=0 wrong(6)=0 wrong(7)=BEYOND wrong(-1)=BEYOND told(6)=2");
    }
}
