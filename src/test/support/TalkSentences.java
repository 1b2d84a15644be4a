/** Promises 14 to 20: talks. */
final class TalkSentences {
    private final Sentences tests;

    TalkSentences(Sentences tests) {
        this.tests = tests;
    }

    void test() {
        bits();
        ends();
        talk();
        knot();
        noTalk();
        said();
        classes();
        once();
    }

    private void bits() {
        tests.says(14, "LEAST BITS of a block.",
            "bits(1,1)=0", "fill(10/01) bits(3,3)=2 bits(1,3)=1 bits(3,2)=1 bits(2,1)=0 bits(2,2)=0",
            "table(5,5) rule(0) bits(31,31)=4 bits(15,15)=3 bits(16,31)=1 bits(31,16)=1 bits(16,16)=0 bits(16,15)=0",
            // A table that was greater leaves nothing behind.
            "table(5,5) rule(0) bits(31,31)=4 table(2,2) bits(3,3)=0 table(5,5) bits(31,31)=0");
        tests.asks(14, "LEAST BITS of a block.", Sentences.BUSY, "bits(7,15)=3", "bits(1,1)=0");
        refuseSets(14, "bits", "BEYOND: a set is empty, or has a bit of none.");
    }

    private void refuseSets(int promise, String act, String sentence) {
        for (String sets : new String[] {"0,1", "1,0", "0,0", "2,1", "1,2", "-1,1", "1,-1", "LOW,1", "1,LOW"}) {
            tests.refuses(promise, sentence, Sentences.NEW, act + "(" + sets + ")=BEYOND");
        }
        for (String sets : new String[] {"0,15", "7,0", "8,15", "7,16", "15,1", "1,31", "-1,15", "7,-1", "LOW,15",
                "7,LOW", "HIGH,1", "1,HIGH", "-8,1", "1,-16"}) {
            tests.refuses(promise, sentence, Sentences.BUSY, act + "(" + sets + ")=BEYOND");
        }
        for (String sets : new String[] {"32,31", "31,32", "33,1", "1,33", "0,31", "31,0", "-32,1"}) {
            tests.refuses(promise, sentence, Sentences.FULL, act + "(" + sets + ")=BEYOND");
        }
    }

    private void ends() {
        tests.says(15, "FEWEST ENDS of a block.",
            "ends(1,1)=1", "fill(10/01) ends(3,3)=4 ends(1,3)=2 ends(3,2)=2 ends(2,1)=1 ends(2,2)=1",
            "table(5,5) rule(0) ends(31,31)=10 ends(15,15)=8 ends(16,31)=2 ends(31,16)=2 ends(16,16)=1 ends(16,15)=1",
            "table(5,5) rule(0) ends(31,31)=10 table(2,2) ends(3,3)=1 table(5,5) ends(31,31)=1");
        tests.asks(15, "FEWEST ENDS of a block.", Sentences.BUSY, "ends(1,1)=1", "ends(1,15)=2", "ends(7,1)=2");
        refuseSets(15, "ends", "BEYOND as of bits().");
    }

    private void talk() {
        tests.says(16, "THE BEST TALK is made: how many knots.",
            "talk()=1 told(5)=1 talk()=1", "fill(22/22) talk()=1", "fill(01) talk()=3 told(5)=3", "fill(10/01) talk()=7",
            "fill(00/01) talk()=5", "table(4,4) rule(0) talk()=15 told(5)=15 table(5,5) told(5)=0 talk()=1");
        // A talk that is made again of the same places is the same one.
        tests.asks(16, "THE BEST TALK is made: how many knots.", Sentences.BUSY, "talk()", "talk() talk()");
    }

    private void knot() {
        tests.says(17, "Of knot k of the talk that was made latest:",
            "fill(10/01) talk()=7 knot(6,0)=2 put(0,0,0) put(1,1,0) talk()=1 knot(0,0)=2 knot(1,0)=BEYOND",
            "talk() put(0,0,1) talk() knot(0,3)=1",
            "fill(01) talk() knot(0,0)=1 fill(0/1) talk() knot(0,0)=0 said(1,0)=3 fill(01) talk() knot(0,0)=1");
        // Rows {0} and {1}; in row 0 columns {0} and {1}: 0 and 1; row 1 is 0.
        String five = "fill(01/00) talk()=5 ";
        tests.says(17, "0 whose it is (0 A, 1 B, 2 an END),", five + "knot(0,0)=0 knot(1,0)=1 knot(2,0)=2 knot(3,0)=2 knot(4,0)=2",
            "talk() knot(0,0)=2");
        tests.says(17, "1 its rows,", five + "knot(0,1)=3 knot(1,1)=1 knot(2,1)=1 knot(3,1)=1 knot(4,1)=2",
            "table(5,1) talk() knot(0,1)=31");
        tests.says(17, "2 its columns,", five + "knot(0,2)=3 knot(1,2)=3 knot(2,2)=1 knot(3,2)=2 knot(4,2)=3",
            "table(1,5) talk() knot(0,2)=31");
        tests.says(17, "3 the knot for FIRST (of an END its answer),",
            five + "knot(0,3)=1 knot(1,3)=2 knot(2,3)=0 knot(3,3)=1 knot(4,3)=0", "fill(1) talk() knot(0,3)=1");
        tests.says(17, "4 that for SECOND (of an END -100: no finding),",
            five + "knot(0,4)=4 knot(1,4)=3 knot(2,4)=-100 knot(3,4)=-100 knot(4,4)=-100 told(6)=0",
            "talk() knot(0,4)=-100 told(6)=0");
        tests.asks(17, "4 that for SECOND (of an END -100: no finding),", "talk()", "knot(0,4)=-100");
        tests.says(17, "5 how many knots are above it.", five + "knot(0,5)=0 knot(1,5)=1 knot(2,5)=2 knot(3,5)=2 knot(4,5)=1",
            "talk() knot(0,5)=0");
        tests.asks(17, "0 whose it is (0 A, 1 B, 2 an END),", Sentences.BUSY, "knot(0,0)=0", "knot(0,5)=0");
        String beyond = "BEYOND: there is no such knot, or another what.";
        tests.refuses(17, beyond, "talk()", "knot(1,0)=BEYOND", "knot(-1,0)=BEYOND", "knot(0,6)=BEYOND", "knot(0,-1)=BEYOND");
        tests.refuses(17, beyond, five, "knot(5,0)=BEYOND", "knot(-1,0)=BEYOND", "knot(0,6)=BEYOND", "knot(4,-1)=BEYOND",
            "knot(HIGH,0)=BEYOND", "knot(LOW,0)=BEYOND", "knot(0,HIGH)=BEYOND", "knot(0,LOW)=BEYOND", "knot(5,6)=BEYOND",
            "knot(-100,4)=BEYOND");
        tests.says(17, beyond, five + "knot(4,0)=2 knot(4,5)=1 knot(0,0)=0 knot(0,5)=0");
    }

    private void noTalk() {
        String sentence = "NONE: no talk was made since the latest table(), put(), rule(), turn(), turnAnswers(), lay(),"
            + " bring() or undo() (of weigh(), too) that was done.";
        // Also such as change nothing.
        String start = "sheet(0,8,1) table(1,1) keep(0) talk()=1 ";
        for (String act : new String[] {"table(1,1)=1", "put(0,0,0)=0", "rule(1)=0", "turn()=1", "turnAnswers()=1",
                "lay(0)=1", "bring(0)=1", "undo()=0", "weigh(0,0,1)=1 undo()=1"}) {
            tests.says(17, sentence, start + act + " knot(0,0)=NONE told(5)=0 talk()=1 knot(0,0)=2 told(5)=1",
                start + act + " said(0,0)=NONE talk()=1 said(0,0)=1");
        }
        for (String act : new String[] {"table(0,1)=BEYOND", "put(0,0,3)=BEYOND", "rule(5)=BEYOND", "lay(1)=MISSING",
                "lay(4)=BEYOND", "sheet(1,8,2) lay(1)=SIZE", "write(0,0,3) lay(0)=BEYOND", "bring(1)=NONE",
                "bring(4)=BEYOND", "undo()=0 undo()=NONE talk()=1 undo()=NONE", "weigh(0,0,9)=1", "keep(1)=2",
                "tell(2) check()=100", "fools(1)=1", "sheet(0,0,0)=0", "write(0,0,1)=0", "copy(0,0,0,0,1)=1",
                "as(0,0)=0", "same(0)=1", "wrong(6)=0", "bits(1,1)=0", "part()=1", "cover(0)=1", "fool(0)=1"}) {
            tests.says(17, sentence, start + act + " knot(0,0)=2 told(5)=1 said(0,0)=1");
        }
        tests.refuses(17, sentence, Sentences.NEW, "knot(0,0)=NONE", "knot(-1,0)=NONE", "knot(0,6)=NONE", "knot(LOW,HIGH)=NONE");
        tests.refuses(17, sentence, "fill(01/10) talk() undo()", "knot(0,0)=NONE", "knot(1,0)=NONE", "knot(0,-1)=NONE");
    }

    private void said() {
        tests.says(18, "What is said in it for a place:",
            "fill(01/00) talk()=5 said(0,0)=4 said(0,1)=5 said(1,0)=3 said(1,1)=3",
            "fill(1/0/0) talk()=3 said(0,0)=2 said(1,0)=3 said(2,0)=3", "table(5,5) talk()=1 said(4,4)=1 said(0,0)=1");
        tests.says(18, "a 1, and behind it, bit by bit, all that is said from the first one on, as a number.",
            "talk() said(0,0)=1", "fill(01) talk() said(0,0)=2 said(0,1)=3",
            "fill(10/01) talk() said(0,0)=4 said(0,1)=5 said(1,0)=6 said(1,1)=7",
            "table(4,4) rule(0) talk() said(2,2)=15 said(3,0)=10");
        tests.asks(18, "What is said in it for a place:", Sentences.BUSY, "said(0,0)", "said(2,3)");
        tests.refuses(18, "NONE as of knot().", Sentences.NEW, "said(0,0)=NONE", "said(1,0)=NONE", "said(0,-1)=NONE",
            "said(LOW,HIGH)=NONE");
        tests.refuses(18, "NONE as of knot().", Sentences.BUSY + " undo()", "said(0,0)=NONE", "said(3,4)=NONE");
        tests.refuses(18, "BEYOND: no such place.", "talk()", "said(0,1)=BEYOND", "said(1,0)=BEYOND", "said(-1,0)=BEYOND");
        tests.refuses(18, "BEYOND: no such place.", Sentences.BUSY, "said(3,0)=BEYOND", "said(0,4)=BEYOND",
            "said(-1,0)=BEYOND", "said(0,-1)=BEYOND", "said(HIGH,0)=BEYOND", "said(0,LOW)=BEYOND");
        tests.refuses(18, "BEYOND: no such place.", Sentences.FULL, "said(5,0)=BEYOND", "said(0,5)=BEYOND");
    }

    private void classes() {
        tests.says(19, "The fewest sets into which rows (columns) can be parted so that no two of a set quarrel:",
            "classes(false)=1 classes(true)=1", "table(5,5) classes(false)=1 rule(0) classes(false)=5 classes(true)=5",
            "fill(0/1/0/1/0) classes(false)=2 classes(true)=1", "fill(01010) classes(false)=1 classes(true)=2",
            // Rows 0 and 1 do not quarrel, nor rows 1 and 2, but rows 0 and 2 do.
            "fill(0/2/1) classes(false)=2", "fill(021) classes(true)=2",
            // Five rows that quarrel in a ring.
            "fill(02221/10222/21022/22102/22210) classes(false)=3 classes(true)=3",
            // Each two of the rows quarrel.
            "fill(00022/12200/21212/22101) classes(false)=4");
        tests.says(19, "at some place of theirs one is 0 and the other 1.",
            "fill(02/20) classes(false)=1 classes(true)=1", "fill(12/21) classes(false)=1", "fill(22/22) classes(true)=1",
            "fill(00/22/00) classes(false)=1", "fill(02/10) classes(false)=2 classes(true)=2",
            "fill(22220/22221) classes(false)=2 classes(true)=1");
        tests.asks(19, "at some place of theirs one is 0 and the other 1.", Sentences.BUSY, "classes(false)=3", "classes(true)");
    }

    private void once() {
        tests.says(20, "The fewest bits with which A (columns: B) alone can tell the other one what to answer:",
            "fill(0/1) once(false)=1 once(true)=0", "fill(01) once(false)=0 once(true)=1",
            "table(5,2) rule(0) once(false)=2 once(true)=1", "table(2,5) rule(0) once(false)=1 once(true)=2");
        tests.says(20, "the least b for which 2 to the b is not below classes().",
            "classes(false)=1 once(false)=0 once(true)=0", "table(2,2) rule(0) classes(true)=2 once(true)=1 once(false)=1",
            "table(3,3) rule(0) classes(true)=3 once(true)=2 once(false)=2",
            "table(4,4) rule(0) classes(true)=4 once(true)=2 once(false)=2",
            "table(5,5) rule(0) classes(true)=5 once(true)=3 once(false)=3");
        tests.asks(20, "the least b for which 2 to the b is not below classes().", Sentences.BUSY, "once(false)=2", "once(true)");
    }
}
