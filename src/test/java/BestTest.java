/** Promises 52 to 58: the best tree, without building it. */
public final class BestTest {
    private static final int NONE = TollTrees.NONE;

    public static void main(String[] args) {
        bestOfFirstGates();
        bestOfPresentState();
        bestAtEveryLimit();
        greatestWork();
        rootTies();
        errorsWithout();
        sufficientLimit();
        stalestGate();
        stalestGateTies();
        quickestGate();
        quickestGateTies();
        Check.finish("BestTest");
    }

    private static void best(TollTrees x, int gate, int limit, int errors, int work, int root) {
        String what = " of gate " + gate + " with limit " + limit;
        Check.same("errors" + what, errors, x.bestErrors(gate, limit));
        Check.same("work" + what, work, x.bestWork(gate, limit));
        Check.same("root" + what, root, x.bestRootQuestion(gate, limit));
    }

    /** north counts 40 25 10 15 10, south counts 5 50 5 30 10, tolls 2 5 7 9 3. */
    private static void bestOfFirstGates() {
        TollTrees x = new TollTrees();
        best(x, 0, 0, 60, 0, NONE);
        best(x, 0, 1, 35, 100, 0);
        best(x, 0, 2, 10, 200, 0);
        best(x, 0, 3, 10, 200, 0);
        best(x, 0, 4, 0, 250, 0);
        best(x, 0, 30, 0, 250, 0);
        best(x, 1, 0, 50, 0, NONE);
        best(x, 1, 1, 20, 100, 2);
        best(x, 1, 2, 5, 200, 0);
        best(x, 1, 3, 5, 200, 0);
        best(x, 1, 4, 0, 260, 2);
        best(x, 1, 30, 0, 260, 2);
    }

    private static void bestOfPresentState() {
        TollTrees x = new TollTrees();
        x.setToll(2, 9);
        Check.same("errors for a new toll", 0, x.bestErrors(1, 2));
        x.setToll(1, 9);
        Check.same("errors for a new toll", 0, x.bestErrors(1, 2));
        Check.same("work for a new toll", 100 + 15, x.bestWork(1, 2));
        x.undo();
        x.undo();
        x.passCarts(1, 2, 500);
        Check.same("errors for new counts", 30, x.bestErrors(1, 2));
        x.undo();
        x.setCostLimit(1, 0);
        Check.same("the gate's own limit does not matter", 5, x.bestErrors(1, 2));
        x.halveCounts(1);
        Check.same("errors for halves", 2, x.bestErrors(1, 2));
        Check.same("work for halves", 49 * 2, x.bestWork(1, 2));
    }

    /** The best tree of each limit is what buildTree() makes. */
    private static void bestAtEveryLimit() {
        String setup = "tolls;ask a 3;ask b 5;ask c 7;ask d 4;ask e 6;ask f 9;cart a 1 a c;cart b 2 b d;cart c 3 c e;"
            + "cart d 4 d f a;cart e 5 e b;cart f 1 f;cart g 2 a b c d e f;cart h 3;gate g 0 23 9 31 42 17 88 5 64 23 71;";
        TollTrees x = Check.loaded(setup);
        int before = Integer.MAX_VALUE;
        for (int limit = 0; limit <= 30; limit++) {
            x.setCostLimit(0, limit);
            x.buildTree(0);
            best(x, 0, limit, x.errors(0), x.work(0), x.nodeQuestion(0, 0));
            Check.same("no more errors than before at " + limit, true, x.errors(0) <= before);
            before = x.errors(0);
        }
    }

    /** Every type is asked three questions of cost 9: no work is greater by much. */
    private static void greatestWork() {
        TollTrees x = Check.loaded("tolls;ask a 9;ask b 9;ask c 9;cart a 1;cart b 2 a;cart c 3 b;cart d 4 a b;cart e 5 c;"
            + "cart f 6 a c;cart g 7 b c;cart h 8 a b c;gate g 0 23 30 9999 9999 9999 9999 9999 9999 9999 9999;");
        best(x, 0, 30, 0, 27 * 8 * 9999, 0);
        best(x, 0, 26, 4 * 9999, 18 * 8 * 9999, 0);
        best(x, 0, 9, 6 * 9999, 9 * 8 * 9999, 0);
        best(x, 0, 8, 7 * 9999, 0, NONE);
        Check.same("work of the present tree", 27 * 8 * 9999, x.work(0));
        Check.same("errors without a", 4 * 9999, x.errorsWithout(0, 0));
        Check.same("limit", 27, x.sufficientLimit(0));
        Check.same("no inconsistencies", 0, x.inconsistencies());
        x.buildTree(0);
        Check.same("nothing to gain", NONE, x.stalestGate());
    }

    private static void rootTies() {
        String carts = "cart a 1 x y;cart b 2;gate g 0 23 30 5 5;";
        TollTrees x = Check.loaded("tolls;ask z 1;ask y 2;ask x 2;" + carts);
        best(x, 0, 30, 0, 20, 1);
        x.halveCounts(0);
        x.halveCounts(0);
        x.halveCounts(0);
        best(x, 0, 30, 0, 0, NONE);
    }

    private static void errorsWithout() {
        TollTrees x = new TollTrees();
        Check.same("without wheels", 10, x.errorsWithout(0, 0));
        Check.same("without load", 10, x.errorsWithout(0, 1));
        Check.same("without beast", 10 + 15, x.errorsWithout(0, 2));
        Check.same("without wheels", 20, x.errorsWithout(1, 0));
        Check.same("without load", 5, x.errorsWithout(1, 1));
        x.setCostLimit(1, 1);
        Check.same("with limit 1", 20, x.errorsWithout(1, 0));
        Check.same("with limit 1", 40, x.errorsWithout(1, 2));
        x.setCostLimit(1, 0);
        Check.same("with limit 0", 50, x.errorsWithout(1, 1));
        TollTrees y = Check.loaded("tolls;ask a 1;cart b 1 a;cart c 2;gate g 0 23 30 5 4;");
        Check.same("without the only question", 4, y.errorsWithout(0, 0));
    }

    private static void sufficientLimit() {
        TollTrees x = new TollTrees();
        Check.same("north", 4, x.sufficientLimit(0));
        Check.same("south", 4, x.sufficientLimit(1));
        x.setToll(2, 9);
        Check.same("south, one toll less", 2, x.sufficientLimit(1));
        Check.same("the gate's own limit does not matter", 2, x.sufficientLimit(0));
        for (int type = 0; type < 5; type++) {
            x.setToll(type, 50);
        }
        Check.same("one toll", 0, x.sufficientLimit(0));
        TollTrees y = Check.loaded("tolls;ask a 9;ask b 9;ask c 9;ask d 3;cart e 0;cart f 1 a;cart g 2 b;cart h 3 c;"
            + "cart i 4 d;gate j 0 23 0 9 9 9 9 1;gate k 0 23 0 9 9 9 9 0;");
        Check.same("the whole limit", 30, y.sufficientLimit(0));
        Check.same("less", 27, y.sufficientLimit(1));
    }

    private static void stalestGate() {
        TollTrees x = new TollTrees();
        Check.same("new", NONE, x.stalestGate());
        x.setToll(4, 2);
        Check.same("the same gain of errors, more of work", 1, Check.loaded(Check.FIRST_SETUP
            + "toll mule 2;pass south mule 5;").stalestGate());
        x.setCostLimit(1, 0);
        Check.same("a lower limit is no gain", 0, x.stalestGate());
        x.buildTree(0);
        Check.same("none left", NONE, x.stalestGate());
        x.setCostLimit(1, 2);
        Check.same("the other", 1, x.stalestGate());
        x.buildTree(1);
        Check.same("none left", NONE, x.stalestGate());
        x.passCarts(1, 0, 900);
        Check.same("no gain by counts alone", NONE, x.stalestGate());
        x.setCostLimit(1, 4);
        Check.same("gain by the limit", 1, x.stalestGate());
    }

    private static void stalestGateTies() {
        String head = "tolls;ask a 1;ask b 2;cart c 1 a;cart d 2 b;";
        TollTrees x = Check.loaded(head + "gate e 0 23 9 5 5;gate f 0 23 9 7 7;gate g 0 23 9 7 7;");
        x.setToll(0, 9);
        Check.same("more errors, then the lowest index", 1, x.stalestGate());
        x.buildTree(1);
        Check.same("the next", 2, x.stalestGate());
        x.buildTree(2);
        Check.same("the last", 0, x.stalestGate());
        x.buildTree(0);
        x.setToll(0, 2);
        Check.same("less work alone, by the greatest", NONE, Check.loaded(head + "gate e 0 23 9 5 5;").stalestGate());
        x = Check.loaded(head + "gate e 0 23 9 5 5;gate f 0 23 9 6 4;gate g 0 23 9 8 5;gate h 0 23 9 7 6;");
        x.setToll(0, 3);
        for (int gate = 0; gate < 4; gate++) {
            x.buildTree(gate);
        }
        x.setToll(0, 3);
        Check.same("no gain", NONE, x.stalestGate());
        for (int gate = 0; gate < 4; gate++) {
            for (int i = 0; i < 4; i++) {
                x.halveCounts(gate);
            }
        }
        Check.same("no carts, nothing to gain", NONE, x.stalestGate());
        workTies();
        gainOfErrorsWithMoreWork();
    }

    /** After halving, the trees of both gates ask what no cart needs. */
    private static void workTies() {
        String head = "tolls;ask a 1;cart c 1 a;cart d 2;";
        TollTrees x = Check.loaded(head + "gate e 0 23 9 5 1;gate f 0 23 9 9 1;gate g 0 23 9 9 1;gate h 0 23 9 8 1;");
        for (int gate = 0; gate < 4; gate++) {
            x.halveCounts(gate);
        }
        Check.same("the same errors, less work", 0, x.errors(1));
        Check.same("work", 4, x.work(1));
        Check.same("greatest gain of work, lowest index", 1, x.stalestGate());
        x.buildTree(1);
        Check.same("greatest gain of work, next index", 2, x.stalestGate());
        x.buildTree(2);
        Check.same("greatest gain of work", 3, x.stalestGate());
        x.buildTree(3);
        Check.same("least gain of work", 0, x.stalestGate());
        x.buildTree(0);
        Check.same("no gain of work", NONE, x.stalestGate());
        TollTrees z = Check.loaded(head + "gate e 0 23 9 2 1;");
        z.halveCounts(0);
        Check.same("a gain of 1", 0, z.stalestGate());
        TollTrees y = Check.loaded(head + "gate e 0 23 0 9 8;gate f 0 23 1 999 1;");
        y.halveCounts(1);
        Check.same("gain of work alone", 1, y.stalestGate());
        y.setCostLimit(0, 9);
        Check.same("a gain of errors goes before", 0, y.stalestGate());
    }

    private static void gainOfErrorsWithMoreWork() {
        String head = "tolls;ask a 1;ask b 2;cart c 1 a;cart d 2;cart e 3 b;";
        TollTrees x = Check.loaded(head + "gate f 0 23 0 5 4 3;gate g 0 23 0 5 4 3;");
        x.setCostLimit(0, 1);
        x.setCostLimit(1, 2);
        x.setCostLimit(0, 2);
        Check.same("a tie", 0, x.stalestGate());
        x.setCostLimit(0, 1);
        Check.same("errors with limit 1", 3, x.bestErrors(0, 1));
        Check.same("a tie", 0, x.stalestGate());
        x.setCostLimit(1, 3);
        Check.same("more errors gained", 1, x.stalestGate());
        TollTrees y = Check.loaded("tolls;ask a 2;ask b 1;cart c 1 a;cart d 2 b;gate f 0 23 0 6 3;gate g 0 23 0 3 4;"
            + "gate h 0 23 0 3 3;");
        y.setCostLimit(0, 9);
        y.setCostLimit(1, 9);
        Check.same("errors tie, less work added", 1, y.stalestGate());
        y.setCostLimit(2, 9);
        Check.same("errors tie, least work added", 2, y.stalestGate());
    }

    private static void quickestGate() {
        TollTrees x = new TollTrees();
        Check.same("only south is open", 1, x.quickestGate(2));
        Check.same("only south is open", 1, x.quickestGate(0));
        x.advanceClock(6);
        Check.same("south is quicker", 1, x.quickestGate(2));
        Check.same("the same: north", 0, x.quickestGate(0));
        x.setCostLimit(1, 0);
        x.buildTree(1);
        Check.same("no question at south", 1, x.quickestGate(0));
        TollTrees y = Check.loaded("tolls;ask a 1;cart c 1 a;cart d 2;gate f 5 5 0 1 1;gate g 3 4 9 1 1;gate h 4 4 0 1 1;");
        Check.same("none is open", NONE, y.quickestGate(0));
        y.advanceClock(3);
        Check.same("one is open", 1, y.quickestGate(1));
        y.advanceClock(1);
        Check.same("two are open", 2, y.quickestGate(1));
        y.advanceClock(1);
        Check.same("another is open", 0, y.quickestGate(1));
        y.advanceClock(1);
        Check.same("none is open", NONE, y.quickestGate(1));
    }

    private static void quickestGateTies() {
        String head = "tolls;ask a 1;cart c 5 a;cart d 3;cart e 4;";
        TollTrees x = Check.loaded(head + "gate f 0 23 0 9 1 1;gate g 0 23 0 1 1 9;gate h 0 23 0 1 9 1;gate i 0 23 0 1 9 1;");
        for (int type = 0; type < 3; type++) {
            Check.same("the lowest toll paid, then the lowest index", 2, x.quickestGate(type));
        }
        x.setToll(1, 99);
        Check.same("the toll paid, not the type's", 2, x.quickestGate(1));
        x.buildTree(2);
        Check.same("the next gate", 3, x.quickestGate(1));
        x.buildTree(3);
        Check.same("the toll of another type", 1, x.quickestGate(1));
        TollTrees y = Check.loaded(head + "gate f 0 23 9 9 9 1;gate g 0 23 0 9 1 1;");
        Check.same("less cost before a lower toll", 1, y.quickestGate(1));
    }
}
