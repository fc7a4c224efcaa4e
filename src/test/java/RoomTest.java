import java.lang.management.ManagementFactory;

/** The room that an object and its 512 calls take. */
public final class RoomTest {
    /** 7.3 million fields and elements of 8 bytes at most, and the heads of 600,000 objects and arrays. */
    private static final long ROOM = 7_300_000L * 8 + 600_000L * 16;

    private static final com.sun.management.ThreadMXBean THREADS =
        (com.sun.management.ThreadMXBean) ManagementFactory.getThreadMXBean();
    private static final String SETUP = "tolls;ask a 1;ask b 2;ask c 3;ask d 4;ask e 5;ask f 6;cart a 1 a;cart b 2 b;"
        + "cart c 3 c;cart d 4 d;cart e 5 e;cart f 6 f;cart g 7 a b;cart h 8 f e d c b a;gate a 0 23 30 1 2 3 4 5 6 7 8;"
        + "gate b 0 23 30 1 2 3 4 5 6 7 8;gate c 0 23 30 1 2 3 4 5 6 7 8;gate d 0 23 30 1 2 3 4 5 6 7 8;";

    private static long answers;

    /** A run of 512 calls on an object. */
    private interface Run {
        void on(TollTrees x);
    }

    public static void main(String[] args) {
        int[] setup = words(SETUP);
        int[] script = words("build a;build b;build c;build d;".repeat(21));
        taken("every call", x -> {
            for (int round = 0; round < 4; round++) {
                round(x, setup, script);
            }
        });
        taken("the longest texts", x -> {
            load(x, setup);
            for (int text = 0; text < 13; text++) {
                feed(x, script);
                answers += x.play();
            }
        });
        taken("every limit", x -> {
            load(x, setup);
            for (int call = 0; call < 480; call++) {
                answers += x.sufficientLimit(call % 4);
            }
        });
        taken("every gate", x -> {
            load(x, setup);
            for (int call = 0; call < 240; call++) {
                answers += x.stalestGate() + x.buildTree(call % 4);
            }
        });
        Check.same("the calls were made", true, answers != 0);
        Check.finish("RoomTest");
    }

    private static void taken(String what, Run run) {
        run.on(new TollTrees());
        long before = THREADS.getThreadAllocatedBytes(Thread.currentThread().getId());
        run.on(new TollTrees());
        long bytes = THREADS.getThreadAllocatedBytes(Thread.currentThread().getId()) - before;
        Check.same(what + " takes " + bytes + " bytes", true, bytes < ROOM);
    }

    private static int[] words(String text) {
        StringBuilder padded = new StringBuilder(text);
        while (padded.length() % 20 != 0) {
            padded.append(' ');
        }
        int[] words = new int[padded.length() / 4];
        for (int i = 0; i < words.length; i++) {
            words[i] = Check.word(padded, 4 * i);
        }
        return words;
    }

    private static void feed(TollTrees x, int[] words) {
        for (int i = 0; i < words.length; i += 5) {
            answers += x.append(words[i], words[i + 1], words[i + 2], words[i + 3], words[i + 4]);
        }
    }

    private static void load(TollTrees x, int[] setup) {
        feed(x, setup);
        answers += x.load();
    }

    private static void round(TollTrees x, int[] setup, int[] script) {
        load(x, setup);
        feed(x, new int[] {script[0], script[1], script[2], script[3], script[0]});
        answers += x.play();
        for (int gate = 0; gate < 4; gate++) {
            answers += x.passCarts(gate, 1, 5) + x.buildTree(gate) + x.halveCounts(gate) + x.setCostLimit(gate, 30);
            answers += x.writeTree(gate) + x.outputByte(3) + x.errors(gate) + x.work(gate) + x.sufficientLimit(gate);
            answers += x.bestErrors(gate, 30) + x.bestWork(gate, 9) + x.bestRootQuestion(gate, 4);
            answers += x.errorsWithout(gate, 2) + (long) x.meanPathCost(gate) + x.mischargeReason(gate, 3);
            answers += x.leafOf(gate, 1) + x.pathCost(gate, 1) + x.hoursUntilOpen(gate) + x.typesAt(gate, 0);
        }
        answers += x.setToll(1, 5) + x.advanceClock(1) + x.save(0) + x.restore(0) + x.undo() + x.stalestGate();
        answers += x.quickestGate(2) + x.inconsistencies() + (long) x.correctShare();
    }
}
