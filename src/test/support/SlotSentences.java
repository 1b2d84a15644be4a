/** Promises 30 to 35: slots, and what is undone and told. */
final class SlotSentences {
    private final Sentences tests;

    SlotSentences(Sentences tests) {
        this.tests = tests;
    }

    void test() {
        keep();
        bring();
        as();
        same();
        undo();
        latestThirty();
        told();
        toldFindings();
    }

    private void keep() {
        tests.says(30, "The task is kept in a slot: its KIND.",
            "keep(0)=2 keep(1)=2 keep(2)=2 keep(3)=2", "fill(012) keep(0)=3", "fill(01) keep(0)=1", "fill(01/11) keep(0)=2",
            "fill(02/20) keep(3)=3", "table(5,5) keep(0)=2 table(5,4) keep(0)=1 put(4,3,2) keep(0)=3",
            // What a slot kept is gone; the task itself may go on.
            "fill(01) keep(0)=1 fill(11/11) keep(0)=2 as(0,0)=4 table(1,1) bring(0)=4 shows(11/11)",
            "fill(01) weights(34) keep(0)=1 put(0,0,1) weigh(0,0,9) bring(0)=2 shows(01) weighing(34)",
            // An OPEN place of a table before is none of this one.
            "table(5,5) put(4,4,2) table(2,2) keep(0)=2");
        tests.refuses(30, "BEYOND.", Sentences.NEW, "keep(4)=BEYOND", "keep(-1)=BEYOND");
        tests.refuses(30, "BEYOND.", Sentences.BUSY, "keep(4)=BEYOND", "keep(-1)=BEYOND", "keep(HIGH)=BEYOND", "keep(LOW)=BEYOND");
        tests.asks(30, "The task is kept in a slot: its KIND.", "fill(012) keep(1) talk() tell(5)", "keep(1)=3");
    }

    private void bring() {
        tests.says(31, "The task is that of a slot: how many places.",
            "keep(0) table(5,5) bring(0)=1 shows(0)", "table(5,5) keep(3) table(1,1) bring(3)=25 told(0)=5 told(1)=5",
            "fill(012/110) weights(123/456) keep(2) table(5,5) bring(2)=6 shows(012/110) weighing(123/456)",
            "fill(012) keep(1) put(0,0,1) bring(1)=3 shows(012) put(0,0,1) bring(1)=3 shows(012)");
        tests.refuses(31, "BEYOND.", Sentences.NEW, "bring(4)=BEYOND", "bring(-1)=BEYOND");
        tests.refuses(31, "BEYOND.", Sentences.FULL, "bring(4)=BEYOND", "bring(-1)=BEYOND", "bring(HIGH)=BEYOND", "bring(LOW)=BEYOND");
        tests.refuses(31, "NONE: it has none.", Sentences.NEW, "bring(0)=NONE", "bring(1)=NONE", "bring(2)=NONE", "bring(3)=NONE");
        tests.refuses(31, "NONE: it has none.", Sentences.BUSY, "bring(1)=NONE", "bring(3)=NONE");
    }

    private void as() {
        tests.says(32, "A slot's task as one of a KIND: how many of its places are 1.",
            "keep(0) as(0,0)=0", "table(5,5) turnAnswers() keep(3) table(1,1) as(3,2)=25 as(3,1)=25 as(3,0)=25",
            "fill(011) keep(1) put(0,0,1) as(1,1)=2 as(1,0)=2", "fill(1212) keep(2) as(2,3)=2 as(2,0)=2");
        tests.asks(32, "A slot's task as one of a KIND: how many of its places are 1.", Sentences.BUSY, "as(0,3)=5", "as(2,0)=4");
        tests.refuses(32, "BEYOND: no such slot, or kind is not 0 to 3.", Sentences.FULL, "as(4,0)=BEYOND", "as(-1,0)=BEYOND",
            "as(HIGH,0)=BEYOND", "as(LOW,0)=BEYOND", "as(0,4)=BEYOND", "as(0,-1)=BEYOND", "as(0,HIGH)=BEYOND", "as(0,LOW)=BEYOND",
            "as(4,4)=BEYOND");
        tests.refuses(32, "BEYOND: no such slot, or kind is not 0 to 3.", Sentences.NEW, "as(0,4)=BEYOND", "as(3,-1)=BEYOND");
        tests.refuses(32, "NONE: it has none.", Sentences.NEW, "as(0,0)=NONE", "as(1,1)=NONE", "as(2,2)=NONE", "as(3,3)=NONE");
        tests.refuses(32, "NONE: it has none.", Sentences.BUSY, "as(1,0)=NONE", "as(3,3)=NONE");
        String kinds = "fill(01) keep(0) fill(01/10) keep(1) fill(02) keep(2) fill(02/20) keep(3)";
        tests.refuses(32, "KIND: it is not of that kind, nor of one under it.", kinds, "as(0,2)=KIND", "as(0,3)=KIND", "as(1,3)=KIND",
            "as(2,1)=KIND", "as(2,2)=KIND", "as(3,1)=KIND", "as(3,2)=KIND");
        tests.says(32, "KIND: it is not of that kind, nor of one under it.",
            kinds + " as(0,0)=1 as(0,1)=1 as(1,0)=2 as(1,1)=2 as(1,2)=2 as(2,0)=0 as(2,3)=0 as(3,0)=0 as(3,3)=0");
    }

    private void same() {
        tests.says(33, "Whether the task comes of a slot's by putting rows in another order, and columns",
            "keep(0) same(0)=1 put(0,0,1) same(0)=0 put(0,0,2) same(0)=0", "fill(012/110) keep(0) fill(101/120) same(0)=1",
            "fill(012/110) keep(0) fill(102/101) same(0)=0", "fill(01/10) keep(3) fill(10/01) same(3)=1 fill(01/01) same(3)=0",
            "fill(0/0/0/0/1) keep(1) fill(1/0/0/0/0) same(1)=1 fill(0/0/1/0/1) same(1)=0",
            "fill(11000/01100/00110/00011/10001) keep(2) fill(10100/01010/00101/10010/01001) same(2)=1"
                + " fill(11000/11000/00110/00011/00101) same(2)=0",
            "fill(001) keep(0) fill(011) same(0)=0", "fill(0/0/1) keep(0) fill(0/1/1) same(0)=0",
            // By turning it another task comes of it.
            "fill(11/00) keep(0) turn() same(0)=0");
        tests.says(33, "(weights are not looked at; of other sizes: 0): 1, 0.",
            "fill(01/10) keep(0) weights(98/76) same(0)=1", "fill(00/00) keep(0) table(2,3) same(0)=0 table(3,2) same(0)=0"
                + " table(1,1) same(0)=0 table(2,2) same(0)=1", "table(1,4) keep(0) table(2,2) same(0)=0 table(4,1) same(0)=0",
            "table(5,5) keep(0) table(5,4) same(0)=0 table(4,5) same(0)=0 table(5,5) same(0)=1");
        tests.asks(33, "Whether the task comes of a slot's by putting rows in another order, and columns", Sentences.BUSY,
            "same(0)=0", "same(2)=1");
        tests.refuses(33, "BEYOND.", Sentences.NEW, "same(4)=BEYOND", "same(-1)=BEYOND");
        tests.refuses(33, "BEYOND.", Sentences.FULL, "same(4)=BEYOND", "same(-1)=BEYOND", "same(HIGH)=BEYOND", "same(LOW)=BEYOND");
        tests.refuses(33, "NONE.", Sentences.NEW, "same(0)=NONE", "same(1)=NONE", "same(2)=NONE", "same(3)=NONE");
        tests.refuses(33, "NONE.", Sentences.BUSY, "same(1)=NONE", "same(3)=NONE");
    }

    private void undo() {
        String sentence = "The latest table(), put(), weigh(), rule(), turn(), turnAnswers(), lay() or bring() that was done is"
            + " undone: how many more can be.";
        String start = "sheet(0,8,3) write(0,1,1) keep(0) fill(01/20/11) weights(12/34/56)";
        for (String act : new String[] {"table(5,5)=6", "put(0,0,2)=0", "weigh(2,1,9)=6", "rule(4)=5", "turn()=2",
                "turnAnswers()=2", "lay(0)=3", "bring(0)=1"}) {
            tests.says(34, sentence, start + " " + act + " undo()=11 shows(01/20/11) weighing(12/34/56)");
        }
        tests.says(34, sentence,
            "put(0,0,1) put(0,0,2) undo()=1 shows(1) undo()=0 shows(0) undo()=NONE put(0,0,2) undo()=0 shows(0)",
            // Only what was done, and none of the other acts.
            "put(0,0,1)=0 put(0,0,3)=BEYOND table(0,0)=BEYOND rule(9)=BEYOND lay(0)=MISSING bring(0)=NONE weigh(0,0,10)=BEYOND"
                + " undo()=0 shows(0) undo()=NONE",
            "put(0,0,1) sheet(0,8,1) write(0,0,1) copy(0,0,0,0,1) talk() tell(0) check() tell(0) fools(0) keep(0) wrong(2)"
                + " unlike(true) undo()=0 shows(0) as(0,0)=1 lay(0)=1 undo()=0 undo()=NONE",
            // What is undone is no act that could be undone.
            "put(0,0,1) undo()=0 undo()=NONE shows(0)");
        tests.refuses(34, "NONE.", Sentences.NEW, "undo()=NONE");
        tests.refuses(34, "NONE.", "put(0,0,1) put(0,0,2) keep(1) tell(3) undo() undo() talk()", "undo()=NONE");
        tests.says(34, "NONE.", "undo()=NONE undo()=NONE told(6)=2 turn() undo()=0 undo()=NONE told(6)=3");
    }

    private void latestThirty() {
        String sentence = "(The latest 30 are kept; also such as changed nothing.)";
        tests.says(34, sentence,
            "put(0,0,1) 29*put(0,0,2) undo()=29 28*undo() shows(1) undo()=0 shows(0) undo()=NONE",
            "put(0,0,1) 30*put(0,0,2) undo()=29 28*undo() shows(2) undo()=0 shows(1) undo()=NONE shows(1)",
            "put(0,0,1) put(0,0,2) 30*turn() undo()=29 28*undo() undo()=0 undo()=NONE shows(2)",
            "put(0,0,1) 300*weigh(0,0,1) undo()=29 29*undo() undo()=NONE shows(1)",
            // Room that was undone is free again.
            "40*turn() undo()=29 put(0,0,1) undo()=29 undo()=28 put(0,0,1) put(0,0,2) undo()=29 shows(1) undo()=28 shows(0)",
            "put(0,0,0) undo()=0", "weigh(0,0,1) undo()=0", "table(1,1) undo()=0", "rule(1) undo()=0", "turn() undo()=0",
            "put(0,0,2) turnAnswers() undo()=1", "sheet(0,8,1) lay(0) undo()=0", "keep(0) bring(0) undo()=0",
            "table(5,5) rule(0) weigh(4,4,7) 29*turn() undo()=29 28*undo() weigh(4,4,7)=7 undo()=1 undo()=0 weigh(4,4,1)=1");
    }

    private void told() {
        tests.says(35, "0 rows,", "told(0)=1 table(5,1) told(0)=5 turn() told(0)=1 undo() told(0)=5");
        tests.says(35, "1 columns,", "told(1)=1 table(1,5) told(1)=5 turn() told(1)=1 undo() told(1)=5");
        tests.says(35, "2 places that are 1,", "told(2)=0 put(0,0,1) told(2)=1 put(0,0,2) told(2)=0",
            "table(5,5) turnAnswers() told(2)=25 table(1,1) told(2)=0 turnAnswers() told(2)=1");
        tests.says(35, "3 OPEN ones,", "told(3)=0 put(0,0,2) told(3)=1 put(0,0,1) told(3)=0",
            "table(5,5) sheet(0,8,0) lay(0) told(3)=25 table(1,1) told(3)=0", "fill(012/220) told(3)=3");
        tests.says(35, "4 numbers that wait,", "told(4)=0 tell(9) told(4)=1 check() told(4)=0", "120*tell(1) told(4)=120 tell(1)=FULL"
                + " told(4)=120 fools(0) told(4)=0");
        tests.says(35, "5 knots of the talk (0: none was made, as of knot()),",
            "told(5)=0 talk() told(5)=1 put(0,0,0) told(5)=0", "fill(10/01) told(5)=0 talk() told(5)=7 weigh(0,0,2) told(5)=7"
                + " undo() told(5)=0 talk() put(0,0,3) told(5)=7 turn() told(5)=0");
        tests.asks(35, "0 rows,", Sentences.BUSY, "told(0)=3", "told(1)=4", "told(2)=4", "told(3)=3", "told(4)=3", "told(5)", "told(6)=0");
        tests.refuses(35, "BEYOND: another what.", Sentences.NEW, "told(7)=BEYOND", "told(-1)=BEYOND");
        tests.refuses(35, "BEYOND: another what.", Sentences.BUSY, "told(7)=BEYOND", "told(-1)=BEYOND", "told(HIGH)=BEYOND", "told(LOW)=BEYOND");
    }

    private void toldFindings() {
        String sentence = "6 how many acts answered a finding ever (this one, too, if it does).";
        tests.says(35, sentence, "told(6)=0 told(7)=BEYOND told(6)=1 told(-1)=BEYOND told(6)=2 told(6)=2",
            // Of every call, acts or asked; -100, 90 and 100 are none.
            "place(1,0)=BEYOND bits(0,0)=BEYOND knot(0,0)=NONE fools(2)=BEYOND undo()=NONE told(6)=5",
            "talk() knot(0,4)=-100 check()=100 tells(2,0,2) check()=90 told(6)=0",
            // What is undone was answered all the same, and a slot brings no other count.
            "keep(0) put(0,0,1) put(0,0,3) undo() bring(0) table(5,5) told(6)=1", "500*told(7)=BEYOND told(6)=500");
    }
}
