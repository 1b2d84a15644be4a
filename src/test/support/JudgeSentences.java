/** Promises 27 to 29: what is told is judged. */
final class JudgeSentences {
    /** A right talk of 10/01: A, then B of both; its knots are 0 (A), 1 (B), 2, 3 (ENDS), 4 (B), 5, 6 (ENDS). */
    private static final String RIGHT = "0,2,1,2,2,1,2,0,1,2,2,0,2,1";
    private final Sentences tests;

    JudgeSentences(Sentences tests) {
        this.tests = tests;
    }

    void test() {
        tell();
        check();
        checkFaults();
        checkMore();
        fools();
        foolsBeyond();
    }

    private void tell() {
        tests.says(27, "One more number waits: how many.",
            "told(4)=0 tell(0)=1 told(4)=1 tell(HIGH)=2 tell(LOW)=3 tell(-1)=4 told(4)=4",
            "tell(7)=1 check() tell(7)=1 fools(0) tell(7)=1", "119*tell(0) told(4)=119 tell(0)=120 told(4)=120",
            // Numbers wait on, whatever becomes of the table.
            "tells(2,1) table(5,5) rule(0) undo() undo() keep(0) bring(0) turnAnswers() told(4)=2 check()=0");
        tests.refuses(27, "FULL: 120 wait.", Sentences.FULL, "tell(0)=FULL", "tell(2)=FULL", "tell(LOW)=FULL", "tell(HIGH)=FULL");
        tests.says(27, "FULL: 120 wait.", "120*tell(2) 3*tell(0)=FULL told(4)=120 check()=100 told(4)=0 tell(0)=1",
            "120*tell(0) tell(25)=FULL fools(0)=0 told(4)=0 tell(1)=1");
    }

    private void check() {
        tests.says(28, "The numbers that wait (none do then) are a told talk:",
            "fill(10/01) tells(" + RIGHT + ") told(4)=14 check()=2 told(4)=0 check()=100",
            "tells(9,9) check()=100 told(4)=0", "tells(2,0,2) check()=90 told(4)=0", "tells(2) check()=100 told(4)=0",
            // Only what waits is read, not what was told ahead of it.
            "tells(2,0) check()=0 tells(2) check()=100 check()=100 tells(2,0) check()=0");
        tests.says(28, "two for each knot, in the order of THE BEST TALK's:",
            "fill(10/01) tells(" + RIGHT + ") check()=2", "fill(00/01) tells(0,2,2,0,1,2,2,0,2,1) check()=2",
            "fill(01/00) tells(0,2,1,2,2,0,2,1,2,0) check()=2", "fill(01/00) tells(0,2,2,0,1,2,2,0,2,1) check()=101");
        tests.says(28, "0 (A) or 1 (B) and the SECOND set of its parting; or 2 and an END's answer.",
            "fill(01) tells(1,2,2,0,2,1) check()=1 tells(0,2,2,0,2,1) check()=100",
            "fill(0/1) tells(0,2,2,0,2,1) check()=1 tells(1,2,2,0,2,1) check()=100", "tells(2,0) check()=0",
            "put(0,0,1) tells(2,1) check()=0", "fill(1/0/0) tells(0,6,2,1,2,0) check()=1 tells(0,2,2,1,2,0) check()=101",
            "fill(10000) tells(1,30,2,1,2,0) check()=1");
        tests.says(28, "The most bits that are said in it, when it is right.",
            "tells(2,0) check()=0", "fill(01/00) tells(0,2,1,2,2,0,2,1,2,0) check()=2",
            "fill(00/01) tells(0,2,2,0,1,2,2,0,2,1) check()=2", "fill(10/00) tells(1,2,0,2,2,1,2,0,2,0) check()=2",
            "fill(01/00) tells(1,2,2,0,0,2,2,1,2,0) check()=2",
            // Of this talk alone.
            "fill(10/01) tells(" + RIGHT + ") check()=2 table(1,1) tells(2,0) check()=0",
            // An EVEN block may be parted on.
            "fill(00) tells(1,2,2,0,2,0) check()=1",
            "table(5,5) tells(" + longest(0) + ") told(4)=98 check()=8");
        tests.asks(28, "The numbers that wait (none do then) are a told talk:", "fill(12/21) talk()", "check()=100",
            "tells(2,1) check()=0", "tells(5) check()=100");
    }

    /** A talk of a table of 5 rows and 5 columns in which every place is an END of its own. */
    private static String longest(int answer) {
        StringBuilder talk = new StringBuilder();
        for (int row = 0; row < 5; row++) {
            talk.append(row < 4 ? "0," + (31 & ~((2 << row) - 1)) + "," : "");
            for (int column = 0; column < 5; column++) {
                talk.append(column < 4 ? "1," + (31 & ~((2 << column) - 1)) + "," : "").append("2,").append(answer).append(",");
            }
        }
        return talk.substring(0, talk.length() - 1);
    }

    private void checkFaults() {
        tests.says(28, "100 and k: k is the first knot (from 0) that is missing (one number alone is none),",
            "check()=100", "tells(0) check()=100", "tells(2) check()=100", "fill(10/01) tells(0,2) check()=101",
            "fill(10/01) tells(0,2,1) check()=101", "fill(10/01) tells(0,2,1,2,2,1,2,0,1,2,2,0) check()=106",
            "fill(10/01) tells(0,2,1,2,2,1,2,0,1,2,2,0,2) check()=106", "fill(10/01) tells(0,2,1,2,2,1,2,0) check()=104",
            // The first one of several.
            "fill(10/01) tells(0,2,1,2,2,5,3,0) check()=102",
            "table(5,5) tells(" + longest(0).substring(0, longest(0).length() - 2) + ") told(4)=97 check()=148");
        tests.says(28, "or that has no number but these,",
            "tells(3,0) check()=100", "tells(-1,0) check()=100", "tells(HIGH,0) check()=100", "tells(LOW,0) check()=100",
            "tells(4,1) check()=100", "fill(01) tells(1,2,3,0,2,1) check()=101", "fill(01) tells(1,2,2,0,-1,1) check()=102");
        tests.says(28, "a SECOND set that is empty,",
            "fill(0/1) tells(0,0,2,0,2,1) check()=100", "fill(01) tells(1,0,2,0,2,1) check()=100",
            "fill(00/01) tells(0,2,2,0,1,0,2,0) check()=102", "tells(0,0) check()=100", "tells(1,0) check()=100");
        tests.says(28, "or has a row (column) that its block has not,",
            "fill(0/1) tells(0,4) check()=100 tells(0,6) check()=100 tells(0,-2) check()=100 tells(0,LOW) check()=100",
            "fill(01) tells(1,4) check()=100 tells(1,6) check()=100 tells(1,-2) check()=100 tells(1,LOW) check()=100",
            "fill(01/01) tells(0,2,0,2) check()=101", "fill(01/01) tells(1,2,1,2) check()=101",
            "fill(0/1/0) tells(0,2,0,2,2,0,2,0,2,1) check()=101 tells(0,2,0,4,2,0,2,0,2,1) check()=2",
            "table(5,5) tells(0,32) check()=100 tells(1,32) check()=100 tells(0,62) check()=100 tells(0,30,2,0,2,0) check()=1"
                + " tells(1,30,2,0,2,0) check()=1 tells(0,16,2,0,2,0) check()=1");
        tests.says(28, "or its lowest one;",
            "fill(0/1) tells(0,1) check()=100 tells(0,3) check()=100 tells(0,-1) check()=100",
            "fill(01) tells(1,1) check()=100 tells(1,3) check()=100 tells(1,-1) check()=100",
            "tells(0,1) check()=100 tells(1,1) check()=100", "fill(0/0/1) tells(0,6,2,0,0,2,2,0,2,1) check()=102",
            "fill(0/0/1) tells(0,6,2,0,0,4,2,0,2,1) check()=2", "fill(001) tells(1,6,2,0,1,6,2,0,2,1) check()=102");
        tests.says(28, "or an answer that is not 0, 1,",
            "tells(2,2) check()=100 tells(2,-1) check()=100 tells(2,HIGH) check()=100 tells(2,LOW) check()=100",
            "put(0,0,2) tells(2,2) check()=100 tells(2,-1) check()=100 tells(2,0) check()=0 tells(2,1) check()=0",
            "fill(01) tells(1,2,2,0,2,2) check()=102");
        tests.says(28, "or that a place of its block is against.",
            "tells(2,1) check()=100", "put(0,0,1) tells(2,0) check()=100", "fill(01) tells(2,0) check()=100 tells(2,1) check()=100",
            "fill(10/01) tells(0,2,1,2,2,1,2,0,1,2,2,0,2,0) check()=106", "fill(20/22) tells(2,1) check()=100 tells(2,0) check()=0",
            "table(5,5) put(4,4,1) tells(2,0) check()=100 tells(2,1) check()=100 tells(" + longest(0) + ") check()=148");
    }

    private void checkMore() {
        tests.says(28, "90: more was told (one number alone, too; a knot as told ahead of that).",
            "tells(2,0,2,0) check()=90", "tells(2,0,2) check()=90", "tells(2,0,-5) check()=90",
            "fill(10/01) tells(" + RIGHT + ",2,0) check()=90", "fill(10/01) tells(" + RIGHT + ",0) check()=90",
            "fill(10/01) tells(0,2,1,2,2,1,2,0,1,2,2,0,2,0,2,0) check()=106",
            "fill(10/01) tells(0,2,1,2,2,1,2,0,1,2,2,0,2,0,9) check()=106", "tells(2,1,2) check()=100",
            "tells(" + "2,0,".repeat(59) + "2,0) told(4)=120 check()=90",
            "table(5,5) tells(" + longest(0) + ") 22*tell(0) told(4)=120 check()=90");
    }

    private void fools() {
        tests.says(29, "The numbers that wait (none do then) are places (5 times the row, and the column):",
            "table(2,3) rule(0) tells(0,6) told(4)=2 fools(1)=1 told(4)=0", "table(5,5) rule(0) tells(0,6,12,18,24) fools(1)=1",
            "table(5,1) turnAnswers() tells(20) fools(1)=1", "table(1,5) turnAnswers() tells(4) fools(1)=1",
            "fill(01/10) tells(1,5) fools(1)=1 tells(1,5) fools(0)=0 told(4)=0 tell(0)=1");
        tests.says(29, "1 when they are all v (none: 1, too), each once, and no two lie in one EVEN block; else 0.",
            "fools(0)=1 fools(1)=1", "tells(0) fools(0)=1 tells(0) fools(1)=0", "put(0,0,2) tells(0) fools(0)=0 tells(0) fools(1)=0",
            "table(3,3) rule(0) tells(0,6,12) fools(1)=1 tells(0,6,7) fools(1)=0 tells(1,7,10) fools(0)=1",
            "table(3,3) rule(0) tells(0,6,0) fools(1)=0 tells(6,6) fools(1)=0 tells(1,2) fools(0)=0 tells(5,10) fools(0)=0",
            "tells(0,0) fools(0)=0", "fill(12/21) tells(0,6) fools(1)=0", "fill(12/01) tells(0,6) fools(1)=1",
            "fill(11/11) tells(0,6) fools(1)=0", "table(5,5) rule(0) tells(0,6,12,18,24,0) fools(1)=0",
            "120*tell(0) fools(0)=0 told(4)=0");
        tests.asks(29, "1 when they are all v (none: 1, too), each once, and no two lie in one EVEN block; else 0.",
            "fill(12/21) talk()", "fools(0)=1", "tells(0) fools(1)=1", "tells(0,6) fools(1)=0", "tells(0) fools(0)=0");
    }

    private void foolsBeyond() {
        String sentence = "BEYOND: v is not 0, 1, or a number is no place.";
        tests.refuses(29, sentence, Sentences.NEW, "fools(2)=BEYOND", "fools(-1)=BEYOND", "fools(HIGH)=BEYOND", "fools(LOW)=BEYOND");
        for (String number : new String[] {"-1", "1", "5", "6", "25", "HIGH", "LOW", "-5"}) {
            tests.refuses(29, sentence, Sentences.NEW, "tell(" + number + ") fools(0)=BEYOND", "tell(" + number + ") fools(1)=BEYOND");
        }
        tests.says(29, sentence, "table(2,3) tells(3) fools(0)=BEYOND tells(4) fools(0)=BEYOND tells(8) fools(0)=BEYOND"
                + " tells(10) fools(0)=BEYOND tells(7) fools(0)=1 tells(2) fools(0)=1 tells(5) fools(0)=1",
            "table(5,5) tells(24) fools(0)=1 tells(25) fools(0)=BEYOND tells(-1) fools(0)=BEYOND",
            // A number that is no place, behind one that is not v, twice there, or in one EVEN block.
            "table(2,2) tells(0,4) fools(1)=BEYOND tells(0,0,4) fools(0)=BEYOND tells(0,1,4) fools(0)=BEYOND"
                + " tells(4,0) fools(0)=BEYOND told(6)=4",
            "table(2,2) tells(9) fools(2)=BEYOND told(6)=1");
        tests.refusesBut(29, "(The numbers are gone also then.)", Sentences.BUSY, "check()", "fools(2)=BEYOND", "fools(-1)=BEYOND",
            "fools(HIGH)=BEYOND", "tell(15) fools(0)=BEYOND", "tell(4) fools(1)=BEYOND");
        tests.refusesBut(29, "(The numbers are gone also then.)", Sentences.FULL, "check()", "fools(2)=BEYOND", "fools(LOW)=BEYOND");
        tests.says(29, "(The numbers are gone also then.)", "tells(0,7) fools(0)=BEYOND told(4)=0 fools(0)=1",
            "tells(0,0) fools(2)=BEYOND told(4)=0 fools(0)=1 tell(0)=1", "120*tell(1) fools(0)=BEYOND tell(0)=1 fools(0)=1");
    }
}
