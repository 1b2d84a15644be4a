import java.io.IOException;

/**
 * Each sentence of the document, of its terms and its promises: the least and the greatest that is taken and the
 * first that is not, the empty and the full, the finding that is asked first, and that a refused call changes
 * nothing. A sentence that no test says is a fault, too.
 */
public final class BoundaryTest {
    public static void main(String[] args) throws IOException {
        Sentences tests = new Sentences();
        new TermSentences(tests).test();
        new TableSentences(tests).test();
        new SheetSentences(tests).test();
        new TalkSentences(tests).test();
        new BoundSentences(tests).test();
        new JudgeSentences(tests).test();
        new SlotSentences(tests).test();
        if (tests.end() != 0) {
            System.exit(1);
        }
    }
}
