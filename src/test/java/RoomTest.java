import java.lang.management.ManagementFactory;

/** All calls of a run live in one room: the rows are made with the object, and no call makes more than a few. */
public final class RoomTest {
    private static final int CALLS = 512;
    private static final long BYTES_OF_AN_OBJECT = 40_000;
    // rank() makes a row of 25 numbers; the others make nothing, once a slot is there.
    private static final long BYTES_OF_ALL_CALLS = CALLS * 200L;

    private final com.sun.management.ThreadMXBean room =
        (com.sun.management.ThreadMXBean) ManagementFactory.getThreadMXBean();
    private int wrong = 0;

    public static void main(String[] args) {
        RoomTest test = new RoomTest();
        test.measure();
        System.out.println(test.wrong == 0 ? "the room is large enough" : test.wrong + " times too much was made");
        if (test.wrong != 0) {
            System.exit(1);
        }
    }

    private long bytes() {
        return room.getCurrentThreadAllocatedBytes();
    }

    private void atMost(String what, long used, long most) {
        if (used > most) {
            wrong++;
            System.out.println(what + ": " + used + " bytes, at most " + most + " are due");
        }
    }

    private void measure() {
        bytes();
        new TalkBench();
        long start = bytes();
        TalkBench x = new TalkBench();
        long used = bytes() - start;
        atMost("an object", used, BYTES_OF_AN_OBJECT);
        for (int call = 0; call < 37; call++) {
            x = new TalkBench();
            x.table(5, 5);
            callOne(x, call);
            start = bytes();
            for (int i = 0; i < CALLS; i++) {
                callOne(x, call);
            }
            used = bytes() - start;
            atMost(CALLS + " times call " + call, used, BYTES_OF_ALL_CALLS);
        }
    }

    private static int callOne(TalkBench x, int call) {
        switch (call) {
            case 0: return x.table(4, 4) + x.part();
            case 1: return x.put(0, 0, 1);
            case 2: return x.place(0, 0);
            case 3: return x.weigh(0, 0, 5);
            case 4: return x.rule(3);
            case 5: return x.turn();
            case 6: return x.turnAnswers();
            case 7: return x.unlike(true);
            case 8: return x.sheet(0, 8, 25);
            case 9: return x.write(0, 0, 1);
            case 10: return x.copy(0, 0, 0, 0, 0);
            case 11: return x.sheet(1, 8, 3) + x.lay(1);
            case 12: return x.rule(0) + x.bits(31, 31);
            case 13: return x.rule(0) + x.ends(31, 31);
            case 14: return x.rule(0) + x.talk();
            case 15: return x.talk() + x.knot(0, 0) + x.said(0, 0);
            case 16: return x.classes(true);
            case 17: return x.once(false);
            case 18: return x.rank(true);
            case 19: return x.fool(1);
            case 20: return x.cover(0);
            case 21: return x.swing();
            case 22: return x.rule(3) + x.wrong(6);
            case 23: return x.tell(1);
            case 24: return x.tell(0) + x.check();
            case 25: return x.tell(0) + x.fools(0);
            case 26: return x.keep(0) + x.bring(0);
            case 27: return x.keep(0) + x.same(0);
            case 28: return x.keep(0) + x.as(0, 0);
            case 29: return x.put(0, 0, 0) + x.undo();
            default: return x.told(call - 30);
        }
    }
}
