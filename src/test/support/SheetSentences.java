/** Promises 10 to 13: sheets. */
final class SheetSentences {
    private final Sentences tests;

    SheetSentences(Sentences tests) {
        this.tests = tests;
    }

    void test() {
        sheet();
        write();
        copy();
        lay();
    }

    private void sheet() {
        tests.says(10, "A sheet has n numbers, all 0, of 8, 16 or 32 bits;",
            "sheet(0,8,30)=30 sheet(1,16,1)=1 sheet(2,32,29)=29 sheet(3,8,0)=0",
            "sheet(3,8,0)=0 lay(3)=0 shows(2) write(3,0,0)=BEYOND",
            "table(1,3) sheet(0,8,3)=3 write(0,0,1) write(0,2,9) sheet(0,8,3)=3 turnAnswers() lay(0)=3 shows(000)",
            // Numbers that a shorter one had not are 0, too, when it becomes longer.
            "table(1,3) sheet(0,8,3) write(0,2,1) sheet(0,8,1)=1 write(0,1,1)=BEYOND sheet(0,8,3)=3 lay(0)=3 shows(000)",
            "sheet(0,8,1) sheet(1,16,1) sheet(2,32,1) copy(0,0,1,0,1)=KIND copy(1,0,2,0,1)=KIND copy(2,0,0,0,1)=KIND"
                + " sheet(1,8,1)=1 copy(0,0,1,0,1)=1",
            "sheet(0,8,30)=30 write(0,29,0)=0 write(0,30,0)=BEYOND");
        tests.says(10, "bits 0: it is MISSING: 0.",
            "sheet(0,0,0)=0 lay(0)=MISSING", "sheet(0,8,1)=1 sheet(0,0,1)=0 lay(0)=MISSING write(0,0,0)=MISSING",
            "sheet(3,32,30)=30 sheet(3,0,30)=0 lay(3)=MISSING sheet(3,32,1)=1 lay(3)=1 shows(0)");
        beyond();
    }

    private void beyond() {
        tests.refuses(10, "BEYOND: no such sheet, or bits.", Sentences.BUSY, "sheet(4,8,1)=BEYOND", "sheet(-1,8,1)=BEYOND",
            "sheet(HIGH,8,1)=BEYOND", "sheet(LOW,0,1)=BEYOND", "sheet(0,1,1)=BEYOND", "sheet(0,7,1)=BEYOND",
            "sheet(0,9,1)=BEYOND", "sheet(0,15,1)=BEYOND", "sheet(0,17,1)=BEYOND", "sheet(0,31,1)=BEYOND",
            "sheet(0,33,1)=BEYOND", "sheet(0,24,1)=BEYOND", "sheet(0,64,1)=BEYOND", "sheet(0,-8,1)=BEYOND",
            "sheet(0,-1,1)=BEYOND", "sheet(0,HIGH,1)=BEYOND", "sheet(0,LOW,1)=BEYOND", "sheet(4,9,1)=BEYOND",
            "sheet(4,8,-1)=BEYOND", "sheet(0,9,-1)=BEYOND", "sheet(0,9,31)=BEYOND");
        tests.refuses(10, "SIZE: n is below 0.", Sentences.BUSY, "sheet(0,8,-1)=SIZE", "sheet(1,16,-1)=SIZE",
            "sheet(2,32,LOW)=SIZE", "sheet(3,8,-30)=SIZE");
        tests.refuses(10, "SIZE: n is below 0.", Sentences.NEW, "sheet(0,8,-1)=SIZE", "sheet(3,32,LOW)=SIZE");
        tests.refuses(10, "BEYOND: n is above 30 (both also with bits 0).", Sentences.BUSY, "sheet(0,8,31)=BEYOND",
            "sheet(1,16,HIGH)=BEYOND", "sheet(2,32,31)=BEYOND", "sheet(0,0,31)=BEYOND", "sheet(0,0,HIGH)=BEYOND",
            "sheet(0,0,-1)=SIZE", "sheet(1,0,LOW)=SIZE", "sheet(2,0,-1)=SIZE", "sheet(2,0,31)=BEYOND");
        tests.says(10, "BEYOND: n is above 30 (both also with bits 0).", "sheet(0,8,30)=30 sheet(0,0,30)=0 sheet(0,0,0)=0");
    }

    private void write() {
        tests.says(11, "Number i of a sheet becomes v (its lowest bits): 0.",
            "table(1,3) sheet(0,8,3) write(0,0,256)=0 write(0,1,257)=0 write(0,2,-254)=0 lay(0)=3 shows(012)",
            "table(1,3) sheet(0,16,3) write(0,0,65536)=0 write(0,1,65537)=0 write(0,2,-65534)=0 lay(0)=3 shows(012)",
            "table(1,3) sheet(0,32,3) write(0,0,0)=0 write(0,1,1)=0 write(0,2,2)=0 lay(0)=3 shows(012)",
            "sheet(0,8,1) write(0,0,LOW)=0 lay(0)=1 write(0,0,HIGH)=0 lay(0)=BEYOND write(0,0,255)=0 lay(0)=BEYOND",
            "sheet(0,16,1) write(0,0,256)=0 lay(0)=BEYOND write(0,0,65535)=0 lay(0)=BEYOND write(0,0,LOW)=0 lay(0)=1",
            "sheet(0,32,1) write(0,0,65536)=0 lay(0)=BEYOND write(0,0,LOW)=0 lay(0)=BEYOND write(0,0,256)=0 lay(0)=BEYOND",
            "sheet(3,8,30) write(3,0,1)=0 write(3,29,1)=0");
        tests.refuses(11, "BEYOND: no such sheet.", Sentences.BUSY, "write(4,0,1)=BEYOND", "write(-1,0,1)=BEYOND",
            "write(HIGH,0,1)=BEYOND", "write(LOW,0,1)=BEYOND", "write(4,99,1)=BEYOND");
        tests.refuses(11, "MISSING.", Sentences.NEW, "write(0,0,1)=MISSING", "write(3,0,1)=MISSING");
        tests.refuses(11, "MISSING.", Sentences.BUSY, "write(2,0,1)=MISSING", "write(2,-1,1)=MISSING",
            "write(2,30,1)=MISSING", "write(2,LOW,1)=MISSING");
        tests.refuses(11, "BEYOND: no such number.", Sentences.BUSY, "write(0,5,1)=BEYOND", "write(0,-1,1)=BEYOND",
            "write(1,12,1)=BEYOND", "write(3,0,1)=BEYOND", "write(0,HIGH,1)=BEYOND", "write(0,LOW,1)=BEYOND");
        tests.refuses(11, "BEYOND: no such number.", Sentences.FULL, "write(0,30,1)=BEYOND", "write(1,25,1)=BEYOND");
    }

    private void copy() {
        String three = "table(1,3) sheet(0,8,3) write(0,0,1) write(0,1,2) sheet(1,8,3)";
        tests.says(12, "n numbers of a sheet from one on come to another one from one on: n.",
            three + " copy(0,0,1,0,3)=3 lay(1)=3 shows(120)", three + " copy(0,0,1,1,2)=2 lay(1)=3 shows(012)",
            three + " copy(0,1,1,0,1)=1 lay(1)=3 shows(200) lay(0)=3 shows(120)",
            three + " copy(0,0,1,0,0)=0 lay(1)=3 shows(000)",
            // Within one sheet those come that it had.
            three + " copy(0,0,0,1,2)=2 lay(0)=3 shows(112)", three + " copy(0,1,0,0,2)=2 lay(0)=3 shows(200)",
            three + " copy(0,0,0,0,3)=3 lay(0)=3 shows(120)",
            "sheet(2,32,30) write(2,29,1) sheet(3,32,30) copy(2,0,3,0,30)=30 sheet(0,32,1) copy(3,29,0,0,1)=1 lay(0)=1"
                + " shows(1)");
        tests.refuses(12, "BEYOND: no such sheet (either).", Sentences.BUSY, "copy(4,0,0,0,1)=BEYOND",
            "copy(0,0,4,0,1)=BEYOND", "copy(-1,0,0,0,1)=BEYOND", "copy(0,0,-1,0,1)=BEYOND", "copy(2,0,4,0,1)=BEYOND",
            "copy(4,0,2,0,1)=BEYOND", "copy(HIGH,0,LOW,0,0)=BEYOND", "copy(LOW,-1,0,-1,-1)=BEYOND");
        tests.refuses(12, "MISSING: one is.", Sentences.NEW, "copy(0,0,1,0,0)=MISSING", "copy(0,0,0,0,0)=MISSING");
        tests.refuses(12, "MISSING: one is.", Sentences.BUSY, "copy(0,0,2,0,1)=MISSING", "copy(2,0,0,0,1)=MISSING",
            "copy(2,0,2,0,0)=MISSING", "copy(2,-1,1,-1,-1)=MISSING", "copy(1,HIGH,2,HIGH,HIGH)=MISSING");
        tests.refuses(12, "KIND: they are not of as many bits.", Sentences.BUSY, "copy(0,0,1,0,1)=KIND",
            "copy(1,0,0,0,1)=KIND", "copy(0,0,3,0,0)=KIND", "copy(3,0,1,0,0)=KIND", "copy(0,-1,1,-1,-1)=KIND",
            "copy(0,5,1,12,9)=KIND");
        tests.says(12, "KIND: they are not of as many bits.", "sheet(0,16,2) sheet(1,16,5) copy(0,0,1,3,2)=2");
        notSoMany();
    }

    private void notSoMany() {
        String two = "sheet(0,8,3) write(0,2,1) sheet(1,8,5) write(1,0,1)";
        tests.refuses(12, "BEYOND: one has not so many (n 0, too),", two, "copy(0,0,1,0,4)=BEYOND", "copy(0,1,1,0,3)=BEYOND",
            "copy(0,3,1,0,1)=BEYOND", "copy(0,4,1,0,0)=BEYOND", "copy(1,0,0,0,4)=BEYOND", "copy(1,0,0,1,3)=BEYOND",
            "copy(1,0,0,3,1)=BEYOND", "copy(1,0,0,4,0)=BEYOND", "copy(0,HIGH,1,0,0)=BEYOND", "copy(0,0,1,HIGH,0)=BEYOND",
            "copy(0,1,1,1,HIGH)=BEYOND", "copy(0,HIGH,1,HIGH,HIGH)=BEYOND", "copy(0,HIGH,1,0,1)=BEYOND",
            "copy(0,1,0,0,3)=BEYOND", "copy(0,0,0,1,3)=BEYOND");
        tests.refuses(12, "BEYOND: one has not so many (n 0, too),", Sentences.FULL, "copy(0,0,0,0,31)=BEYOND",
            "copy(0,31,0,0,0)=BEYOND", "copy(0,0,0,31,0)=BEYOND", "copy(0,0,1,0,26)=BEYOND", "copy(1,0,0,6,25)=BEYOND");
        tests.says(12, "BEYOND: one has not so many (n 0, too),",
            two + " copy(0,0,1,0,3)=3 copy(0,0,1,2,3)=3 copy(0,3,1,5,0)=0 copy(1,2,0,0,3)=3 copy(1,5,0,3,0)=0",
            "sheet(0,8,0) copy(0,0,0,0,0)=0 copy(0,1,0,0,0)=BEYOND copy(0,0,0,1,0)=BEYOND copy(0,0,0,0,1)=BEYOND");
        tests.refuses(12, "or from, to or n is below 0.", two, "copy(0,-1,1,0,1)=BEYOND", "copy(0,0,1,-1,1)=BEYOND",
            "copy(0,0,1,0,-1)=BEYOND", "copy(0,-1,1,0,0)=BEYOND", "copy(0,0,1,-1,0)=BEYOND", "copy(0,3,1,5,-1)=BEYOND",
            "copy(0,LOW,1,0,1)=BEYOND", "copy(0,0,1,LOW,1)=BEYOND", "copy(0,0,1,0,LOW)=BEYOND",
            "copy(0,LOW,1,LOW,LOW)=BEYOND", "copy(0,HIGH,1,HIGH,LOW)=BEYOND", "copy(0,-1,1,-1,-1)=BEYOND");
    }

    private void lay() {
        String four = "sheet(0,8,4) write(0,0,1) write(0,1,2) write(0,3,1)";
        tests.says(13, "Places become those of a sheet, row by row, from its first number on;",
            four + " table(2,2) lay(0)=4 shows(12/01)", four + " fill(11/11/11) weights(23/45/67) lay(0)=4"
                + " shows(12/01/22) weighing(23/45/67)", four + " table(4,1) lay(0)=4 shows(1/2/0/1)",
            "table(5,5) sheet(3,32,25) write(3,24,1) write(3,5,2) lay(3)=25 shows(00000/20000/00000/00000/00001)");
        tests.says(13, "those that it has no number for (it is cut short) are OPEN:",
            four + " table(2,3) lay(0)=4 shows(120/122) told(3)=3", "sheet(1,8,0) lay(1)=0 shows(2)",
            four + " table(5,1) lay(0)=4 shows(1/2/0/1/2)", "table(5,5) sheet(1,16,0) lay(1)=0 told(3)=25 told(2)=0",
            "fill(11/11) sheet(0,8,3) lay(0)=3 shows(00/02)");
        tests.says(13, "how many it had numbers for.", four + " table(5,5) lay(0)=4 sheet(1,8,0) lay(1)=0",
            "table(5,5) sheet(0,8,25) lay(0)=25 sheet(0,8,24) lay(0)=24", "sheet(0,8,1) lay(0)=1");
        tests.refuses(13, "BEYOND: no such sheet.", Sentences.BUSY, "lay(4)=BEYOND", "lay(-1)=BEYOND", "lay(HIGH)=BEYOND",
            "lay(LOW)=BEYOND");
        tests.refuses(13, "MISSING.", Sentences.NEW, "lay(0)=MISSING", "lay(3)=MISSING");
        tests.refuses(13, "MISSING.", Sentences.BUSY, "lay(2)=MISSING", "sheet(2,0,9) lay(2)=MISSING");
        tests.refuses(13, "SIZE: it has more numbers than there are places.", Sentences.FULL, "lay(0)=SIZE", "lay(2)=SIZE",
            "lay(3)=SIZE");
        tests.refuses(13, "SIZE: it has more numbers than there are places.", four + " talk()", "lay(0)=SIZE");
        tests.says(13, "SIZE: it has more numbers than there are places.",
            "table(2,3) sheet(0,8,7) lay(0)=SIZE write(0,6,3) lay(0)=SIZE sheet(0,8,6) lay(0)=6",
            "table(5,5) sheet(0,8,26) lay(0)=SIZE sheet(0,8,25) lay(0)=25", "sheet(0,8,2) lay(0)=SIZE");
        tests.refuses(13, "BEYOND: one is not 0 to 2.", Sentences.BUSY, "lay(1)=BEYOND");
        for (String number : new String[] {"3", "-1", "HIGH", "LOW"}) {
            tests.refuses(13, "BEYOND: one is not 0 to 2.", "fill(12/21) talk() sheet(0,32,3) write(0,2," + number + ")",
                "lay(0)=BEYOND");
            tests.refuses(13, "BEYOND: one is not 0 to 2.", "fill(12/21) talk() sheet(0,32,3) write(0,0," + number + ")",
                "lay(0)=BEYOND");
        }
    }
}
