/** Promises 8 to 16: ordinary runs of changes, undo, save and restore. UndoEdges and ChangeEdges test the edges. */
public final class ChangesTest {
    public static void main(String[] args) {
        passCarts();
        passCartsAtFullCount();
        buildTree();
        halveCounts();
        setToll();
        setCostLimit();
        advanceClock();
        undo();
        saveAndRestore();
        whatUndoLeavesAlone();
        Check.finish("ChangesTest");
    }

    private static void passCarts() {
        TollTrees x = new TollTrees();
        Check.due("pass(1, 2, 4)", 9, () -> x.passCarts(1, 2, 4));
        Check.same("count", 9, x.countAt(1, 2));
        Check.same("count of another type", 30, x.countAt(1, 3));
        Check.same("count at another gate", 10, x.countAt(0, 2));
        Check.same("the tree stays", 7, x.nodeCount(1));
        Check.due("pass(1, 0, 1)", 2, () -> x.passCarts(1, 0, 1));
        Check.due("pass(1, 4, 999)", 3, () -> x.passCarts(1, 4, 999));
        Check.same("count", 1009, x.countAt(1, 4));
        Check.same("undoable", 3, x.undoableChanges());
        x.setToll(4, 50);
        Check.due("pays the toll of the leaf", 3, () -> x.passCarts(1, 4, 1));
        x.buildTree(1);
        Check.due("pays the toll of the new leaf", 50, () -> x.passCarts(1, 4, 1));
    }

    private static void passCartsAtFullCount() {
        TollTrees x = Check.loaded("tolls;ask a 1;cart c 3;cart d 4 a;gate g 0 23 9 9000 9999;");
        x.passCarts(0, 0, 998);
        Check.same("count 9998", 9998, x.countAt(0, 0));
        x.passCarts(0, 0, 1);
        Check.same("count 9999", 9999, x.countAt(0, 0));
        x.passCarts(0, 0, 1);
        Check.same("count stays 9999", 9999, x.countAt(0, 0));
        x.passCarts(0, 1, 999);
        Check.same("count stays 9999", 9999, x.countAt(0, 1));
        Check.same("all passed", 998 + 1 + 1 + 999, x.cartsPassed());
        Check.same("play: count", 1, Parse.play(x, "pass g d 5;"));
        Check.same("count stays 9999", 9999, x.countAt(0, 1));
    }

    private static void buildTree() {
        TollTrees x = new TollTrees();
        Check.due("build with no effect", 9, () -> x.buildTree(0));
        Check.same("no effect", Seen.state(Start.NEW), Seen.state(Start.NEW.then(y -> y.buildTree(0))));
        Check.same("a change", 1, x.undoableChanges());
        x.setCostLimit(0, 0);
        Check.same("limit leaves the tree", 9, x.nodeCount(0));
        Check.due("build with limit 0", 1, () -> x.buildTree(0));
        Check.same("leaf", 2, x.leafToll(0, 0));
        x.setCostLimit(0, 1);
        Check.due("build with limit 1", 3, () -> x.buildTree(0));
        Check.same("other gate", 7, x.nodeCount(1));
        x.setToll(0, 7);
        x.setToll(1, 7);
        x.setToll(3, 7);
        x.setToll(4, 7);
        Check.due("build with one toll", 1, () -> x.buildTree(1));
    }

    private static void halveCounts() {
        TollTrees x = new TollTrees();
        Check.due("halve", 2 + 25 + 2 + 15 + 5, () -> {
            x.setToll(0, 1);
            x.passCarts(1, 1, 1);
            x.undo();
            return x.halveCounts(1);
        });
        Check.same("rounded down", 2, x.countAt(1, 0));
        Check.same("halved", 25, x.countAt(1, 1));
        Check.same("other gate", 25, x.countAt(0, 1));
        Check.same("tree", 7, x.nodeCount(1));
        Check.due("halve", 1 + 12 + 1 + 7 + 2, () -> x.halveCounts(1));
        Check.due("halve", 0 + 6 + 0 + 3 + 1, () -> x.halveCounts(1));
        Check.due("halve", 3 + 1, () -> x.halveCounts(1));
        Check.due("halve", 1, () -> x.halveCounts(1));
        Check.due("halve", 0, () -> x.halveCounts(1));
        Check.due("halve nothing", 0, () -> x.halveCounts(1));
    }

    private static void setToll() {
        TollTrees x = new TollTrees();
        Check.due("toll", 2, () -> x.setToll(0, 99));
        Check.due("toll", 99, () -> x.setToll(0, 0));
        Check.due("toll", 0, () -> x.setToll(0, 0));
        Check.due("toll", 3, () -> x.setToll(4, 1));
        Check.same("toll", 1, x.toll(4));
        Check.same("other toll", 9, x.toll(3));
        Check.same("tree", 3, x.leafToll(0, 7));
        Check.same("undoable", 4, x.undoableChanges());
    }

    private static void setCostLimit() {
        TollTrees x = new TollTrees();
        Check.due("limit", 9, () -> x.setCostLimit(0, 30));
        Check.due("limit", 30, () -> x.setCostLimit(0, 0));
        Check.due("limit", 0, () -> x.setCostLimit(0, 0));
        Check.due("limit", 2, () -> x.setCostLimit(1, 17));
        Check.same("limit", 17, x.costLimit(1));
        Check.same("limit", 0, x.costLimit(0));
        Check.same("undoable", 4, x.undoableChanges());
    }

    private static void advanceClock() {
        TollTrees x = new TollTrees();
        Check.due("to 1", 1, () -> x.advanceClock(1));
        Check.due("to 6", 2, () -> x.advanceClock(5));
        Check.due("to 20", 2, () -> x.advanceClock(14));
        Check.due("to 21", 1, () -> x.advanceClock(1));
        Check.due("to 121", 1, () -> x.advanceClock(100));
        Check.same("clock", 121, x.clock());
        Check.due("to 127", 2, () -> x.advanceClock(6));
        TollTrees y = Check.loaded("tolls;ask a 1;cart c 1;gate f 1 1 1 1;gate g 3 5 1 1;gate h 4 2 1 1;gate i 0 0 1 1;");
        int[] open = {2, 1, 1, 2, 2, 1};
        for (int hour = 1; hour <= 6; hour++) {
            Check.same("open at " + hour, open[hour - 1], y.advanceClock(1));
        }
        Check.same("open at 24", 2, y.advanceClock(18));
    }

    private static void undo() {
        TollTrees x = new TollTrees();
        for (int i = 1; i <= 10; i++) {
            x.advanceClock(1);
            Check.same("undoable after " + i, Math.min(i, 8), x.undoableChanges());
        }
        for (int left = 7; left >= 0; left--) {
            int want = left;
            Check.due("undo", want, () -> x.undo());
            Check.same("clock after undo", 2 + left, x.clock());
            Check.same("undoable after undo", left, x.undoableChanges());
        }
        x.advanceClock(5);
        x.undo();
        Check.same("clock", 2, x.clock());
        Check.notNow("no redo", () -> x.undo());
    }

    private static void saveAndRestore() {
        Start first = Start.NEW.then(x -> x.advanceClock(3)).then(x -> x.passCarts(1, 2, 4));
        Start second = first.then(x -> x.save(0)).then(x -> Parse.load(x, Parse.HEAD)).then(x -> x.advanceClock(8));
        second.answers("save", 8, x -> x.save(1));
        Start both = second.then(x -> x.save(1));
        both.answers("restore", 3, x -> x.restore(0));
        Start restored = both.then(x -> x.restore(0));
        Check.same("restored", Seen.state(first), Seen.state(restored));
        restored.answers("restore is a change", 5, x -> x.undoableChanges());
        Start away = restored.then(x -> {
            x.advanceClock(1);
            x.setToll(0, 77);
            x.passCarts(1, 0, 9);
            x.halveCounts(1);
        });
        Check.same("stays saved", Seen.state(first), Seen.state(away.then(x -> x.restore(0))));
        Check.same("the other", Seen.state(second), Seen.state(away.then(x -> x.restore(1))));
        Check.same("restore undone", Seen.state(restored), Seen.state(restored.then(x -> x.restore(1)).then(x -> x.undo())));
        restored.then(x -> x.advanceClock(1)).then(x -> x.save(1)).answers("saved over", 4, x -> x.restore(1));
    }

    private static void whatUndoLeavesAlone() {
        TollTrees x = new TollTrees();
        x.advanceClock(1);
        x.save(0);
        x.undo();
        Check.due("undo leaves the saved states", 1, () -> x.restore(0));
        Parse.play(x, "hours 0;");
        x.advanceClock(1);
        Parse.feed(x, "hours 5;");
        x.writeTree(1);
        x.undo();
        Check.same("undo leaves the error", 2, x.errorCode());
        Check.same("undo leaves the offset", 6, x.errorOffset());
        Check.same("undo leaves the output", 119, x.outputByte(0));
        x.restore(0);
        Check.same("restore leaves the error", 2, x.errorCode());
        Check.same("restore leaves the output", 41, x.outputByte(32));
        Check.same("undo and restore leave the input", 1, x.play());
        Check.same("clock", 6, x.clock());
        x.writeTree(0);
        Parse.load(x, Parse.HEAD);
        Check.same("load leaves the output", 41, x.outputByte(41));
        Check.due("load leaves the saved states", 1, () -> x.restore(0));
    }
}
