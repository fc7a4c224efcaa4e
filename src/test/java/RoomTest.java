import java.lang.management.ManagementFactory;

/** The room that an object and its calls take: the calls use the rows again that the constructor made. */
public final class RoomTest {
    private static final com.sun.management.ThreadMXBean THREADS =
        (com.sun.management.ThreadMXBean) ManagementFactory.getThreadMXBean();
    private static final String SETUP = "tolls;ask a 1;ask b 2;ask c 3;ask d 4;ask e 5;ask f 6;cart a 1 a;cart b 2 b;"
        + "cart c 3 c;cart d 4 d;cart e 5 e;cart f 6 f;cart g 7 a b;cart h 8 f e d c b a;gate a 0 23 30 1 2 3 4 5 6 7 8;"
        + "gate b 0 23 30 1 2 3 4 5 6 7 8;gate c 0 23 30 1 2 3 4 5 6 7 8;gate d 0 23 30 1 2 3 4 5 6 7 8;";
    private static final String SCRIPT = "pass a a 9;build a;halve b;toll c 9;limit d 3;hours 1;";

    private static long answers;

    public static void main(String[] args) {
        TollTrees x = Check.loaded(SETUP);
        int[] setup = words(SETUP);
        int[] script = words(SCRIPT);
        round(x, setup, script);
        long before = THREADS.getThreadAllocatedBytes(Thread.currentThread().getId());
        for (int i = 0; i < 100; i++) {
            round(x, setup, script);
        }
        long taken = THREADS.getThreadAllocatedBytes(Thread.currentThread().getId()) - before;
        Check.same("the calls make nothing: " + taken + " bytes", true, taken < 4096);
        before = THREADS.getThreadAllocatedBytes(Thread.currentThread().getId());
        for (int i = 0; i < 100; i++) {
            answers += new TollTrees().typeCount();
        }
        taken = (THREADS.getThreadAllocatedBytes(Thread.currentThread().getId()) - before) / 100;
        // All fields and elements of 60 objects, at 8 bytes each, stay well within the room of 7.3 million.
        Check.same("an object is small: " + taken + " bytes", true, taken < 120_000);
        Check.same("the calls were made", true, answers != 0);
        Check.finish("RoomTest");
    }

    private static int[] words(String text) {
        StringBuilder padded = new StringBuilder(text);
        while (padded.length() % 20 != 0) {
            padded.append(' ');
        }
        int[] words = new int[padded.length() / 4];
        for (int i = 0; i < words.length; i++) {
            words[i] = Check.word(padded, 4 * i);
        }
        return words;
    }

    private static void feed(TollTrees x, int[] words) {
        for (int i = 0; i < words.length; i += 5) {
            answers += x.append(words[i], words[i + 1], words[i + 2], words[i + 3], words[i + 4]);
        }
    }

    private static void round(TollTrees x, int[] setup, int[] script) {
        feed(x, setup);
        answers += x.load();
        feed(x, script);
        answers += x.play();
        for (int gate = 0; gate < 4; gate++) {
            answers += x.passCarts(gate, 1, 5) + x.buildTree(gate) + x.halveCounts(gate) + x.setCostLimit(gate, 30);
            answers += x.writeTree(gate) + x.outputByte(3) + x.errors(gate) + x.work(gate) + x.sufficientLimit(gate);
            answers += x.bestErrors(gate, 30) + x.bestWork(gate, 9) + x.bestRootQuestion(gate, 4);
            answers += x.errorsWithout(gate, 2) + (long) x.meanPathCost(gate) + x.mischargeReason(gate, 3);
            answers += x.leafOf(gate, 1) + x.pathCost(gate, 1) + x.hoursUntilOpen(gate) + x.typesAt(gate, 0);
        }
        answers += x.setToll(1, 5) + x.advanceClock(1) + x.save(0) + x.restore(0) + x.undo() + x.stalestGate();
        answers += x.quickestGate(2) + x.inconsistencies() + (long) x.correctShare();
    }
}
