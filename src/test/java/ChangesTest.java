/** Promises 8 to 16: the changes, undo, save and restore. */
public final class ChangesTest {
    private static final int MIN = Integer.MIN_VALUE;
    private static final int MAX = Integer.MAX_VALUE;
    /** Gate g is open from 6 to 8, gate h always; the best tree asks a. */
    private static final String HEAD = "tolls;ask a 1;ask b 2;cart c 3;cart d 4 a;gate g 6 8 9 1 2;gate h 0 23 9 3 4;";

    public static void main(String[] args) {
        passCarts();
        passCartsAtFullCount();
        passCartsWrong();
        buildTree();
        halveCounts();
        setToll();
        setCostLimit();
        advanceClock();
        advanceClockToTheEnd();
        undo();
        undoOfEveryChange();
        undoAcrossTheRing();
        saveAndRestore();
        whatUndoLeavesAlone();
        Check.finish("ChangesTest");
    }

    private static void passCarts() {
        TollTrees x = new TollTrees();
        Check.due("pass(1, 2, 4)", 9, () -> x.passCarts(1, 2, 4));
        Check.same("count", 9, x.countAt(1, 2));
        Check.same("count of another type", 30, x.countAt(1, 3));
        Check.same("count at another gate", 10, x.countAt(0, 2));
        Check.same("the tree stays", 7, x.nodeCount(1));
        Check.due("pass(1, 0, 1)", 2, () -> x.passCarts(1, 0, 1));
        Check.due("pass(1, 4, 999)", 3, () -> x.passCarts(1, 4, 999));
        Check.same("count", 1009, x.countAt(1, 4));
        Check.same("undoable", 3, x.undoableChanges());
        x.setToll(4, 50);
        Check.due("pays the toll of the leaf", 3, () -> x.passCarts(1, 4, 1));
        x.buildTree(1);
        Check.due("pays the toll of the new leaf", 50, () -> x.passCarts(1, 4, 1));
    }

    private static void passCartsAtFullCount() {
        TollTrees x = Check.loaded("tolls;ask a 1;cart c 3;cart d 4 a;gate g 0 23 9 9000 9999;");
        x.passCarts(0, 0, 998);
        Check.same("count 9998", 9998, x.countAt(0, 0));
        x.passCarts(0, 0, 1);
        Check.same("count 9999", 9999, x.countAt(0, 0));
        x.passCarts(0, 0, 1);
        Check.same("count stays 9999", 9999, x.countAt(0, 0));
        x.passCarts(0, 1, 999);
        Check.same("count stays 9999", 9999, x.countAt(0, 1));
        Check.same("all passed", 998 + 1 + 1 + 999, x.cartsPassed());
        Check.same("play: count", 1, Check.play(x, "pass g d 5;"));
        Check.same("count stays 9999", 9999, x.countAt(0, 1));
    }

    private static void passCartsWrong() {
        TollTrees x = new TollTrees();
        x.writeTree(1);
        for (int gate : new int[] {-1, 2, 4, MIN, MAX}) {
            Check.throwsAndKeeps(x, "pass at " + gate, "IndexOutOfBoundsException", () -> x.passCarts(gate, 0, 1));
            Check.outside("pass, all wrong", () -> x.passCarts(gate, -1, 0));
        }
        for (int type : new int[] {-1, 5, 8, MIN, MAX}) {
            Check.throwsAndKeeps(x, "pass of " + type, "IndexOutOfBoundsException", () -> x.passCarts(1, type, 1));
            Check.outside("pass, number wrong too", () -> x.passCarts(1, type, 0));
            Check.outside("pass, closed too", () -> x.passCarts(0, type, 1));
        }
        for (int number : new int[] {-1, 0, 1000, MIN, MAX}) {
            Check.throwsAndKeeps(x, "pass " + number, "IllegalArgumentException", () -> x.passCarts(1, 0, number));
            Check.illegal("pass, closed too", () -> x.passCarts(0, 0, number));
        }
        Check.throwsAndKeeps(x, "closed", "IllegalStateException", () -> x.passCarts(0, 0, 1));
        x.advanceClock(6);
        Check.due("open", 2, () -> x.passCarts(0, 0, 1));
        x.advanceClock(14);
        Check.due("open at the closing hour", 2, () -> x.passCarts(0, 0, 1));
        x.advanceClock(1);
        Check.notNow("closed after it", () -> x.passCarts(0, 0, 1));
    }

    private static void buildTree() {
        TollTrees x = new TollTrees();
        Check.due("build with no effect", 9, () -> x.buildTree(0));
        Check.same("no effect", Check.seen(new TollTrees()), Check.seen(x));
        Check.same("a change", 1, x.undoableChanges());
        x.setCostLimit(0, 0);
        Check.same("limit leaves the tree", 9, x.nodeCount(0));
        Check.due("build with limit 0", 1, () -> x.buildTree(0));
        Check.same("leaf", 2, x.leafToll(0, 0));
        x.setCostLimit(0, 1);
        Check.due("build with limit 1", 3, () -> x.buildTree(0));
        Check.same("other gate", 7, x.nodeCount(1));
        x.setToll(0, 7);
        x.setToll(1, 7);
        x.setToll(3, 7);
        x.setToll(4, 7);
        Check.due("build with one toll", 1, () -> x.buildTree(1));
        for (int gate : new int[] {-1, 2, 4, MIN, MAX}) {
            Check.throwsAndKeeps(x, "build " + gate, "IndexOutOfBoundsException", () -> x.buildTree(gate));
        }
    }

    private static void halveCounts() {
        TollTrees x = new TollTrees();
        Check.due("halve", 2 + 25 + 2 + 15 + 5, () -> {
            x.setToll(0, 1);
            x.passCarts(1, 1, 1);
            x.undo();
            return x.halveCounts(1);
        });
        Check.same("rounded down", 2, x.countAt(1, 0));
        Check.same("halved", 25, x.countAt(1, 1));
        Check.same("other gate", 25, x.countAt(0, 1));
        Check.same("tree", 7, x.nodeCount(1));
        Check.due("halve", 1 + 12 + 1 + 7 + 2, () -> x.halveCounts(1));
        Check.due("halve", 0 + 6 + 0 + 3 + 1, () -> x.halveCounts(1));
        Check.due("halve", 3 + 1, () -> x.halveCounts(1));
        Check.due("halve", 1, () -> x.halveCounts(1));
        Check.due("halve", 0, () -> x.halveCounts(1));
        Check.due("halve nothing", 0, () -> x.halveCounts(1));
        for (int gate : new int[] {-1, 2, MIN, MAX}) {
            Check.throwsAndKeeps(x, "halve " + gate, "IndexOutOfBoundsException", () -> x.halveCounts(gate));
        }
    }

    private static void setToll() {
        TollTrees x = new TollTrees();
        Check.due("toll", 2, () -> x.setToll(0, 99));
        Check.due("toll", 99, () -> x.setToll(0, 0));
        Check.due("toll", 0, () -> x.setToll(0, 0));
        Check.due("toll", 3, () -> x.setToll(4, 1));
        Check.same("toll", 1, x.toll(4));
        Check.same("other toll", 9, x.toll(3));
        Check.same("tree", 3, x.leafToll(0, 7));
        Check.same("undoable", 4, x.undoableChanges());
        for (int type : new int[] {-1, 5, 8, MIN, MAX}) {
            Check.throwsAndKeeps(x, "toll of " + type, "IndexOutOfBoundsException", () -> x.setToll(type, 1));
            Check.outside("toll, both wrong", () -> x.setToll(type, 100));
        }
        for (int toll : new int[] {-1, 100, MIN, MAX}) {
            Check.throwsAndKeeps(x, "toll " + toll, "IllegalArgumentException", () -> x.setToll(0, toll));
        }
    }

    private static void setCostLimit() {
        TollTrees x = new TollTrees();
        Check.due("limit", 9, () -> x.setCostLimit(0, 30));
        Check.due("limit", 30, () -> x.setCostLimit(0, 0));
        Check.due("limit", 0, () -> x.setCostLimit(0, 0));
        Check.due("limit", 2, () -> x.setCostLimit(1, 17));
        Check.same("limit", 17, x.costLimit(1));
        Check.same("limit", 0, x.costLimit(0));
        Check.same("undoable", 4, x.undoableChanges());
        for (int gate : new int[] {-1, 2, 4, MIN, MAX}) {
            Check.throwsAndKeeps(x, "limit at " + gate, "IndexOutOfBoundsException", () -> x.setCostLimit(gate, 1));
            Check.outside("limit, both wrong", () -> x.setCostLimit(gate, 31));
        }
        for (int limit : new int[] {-1, 31, MIN, MAX}) {
            Check.throwsAndKeeps(x, "limit " + limit, "IllegalArgumentException", () -> x.setCostLimit(0, limit));
        }
    }

    private static void advanceClock() {
        TollTrees x = new TollTrees();
        Check.due("to 1", 1, () -> x.advanceClock(1));
        Check.due("to 6", 2, () -> x.advanceClock(5));
        Check.due("to 20", 2, () -> x.advanceClock(14));
        Check.due("to 21", 1, () -> x.advanceClock(1));
        Check.due("to 121", 1, () -> x.advanceClock(100));
        Check.same("clock", 121, x.clock());
        Check.due("to 127", 2, () -> x.advanceClock(6));
        for (int hours : new int[] {-1, 0, 101, MIN, MAX}) {
            Check.throwsAndKeeps(x, "hours " + hours, "IllegalArgumentException", () -> x.advanceClock(hours));
        }
        TollTrees y = Check.loaded("tolls;ask a 1;cart c 1;gate f 1 1 1 1;gate g 3 5 1 1;gate h 4 2 1 1;gate i 0 0 1 1;");
        int[] open = {2, 1, 1, 2, 2, 1};
        for (int hour = 1; hour <= 6; hour++) {
            Check.same("open at " + hour, open[hour - 1], y.advanceClock(1));
        }
        Check.same("open at 24", 2, y.advanceClock(18));
    }

    private static void advanceClockToTheEnd() {
        TollTrees x = new TollTrees();
        for (int i = 0; i < 99; i++) {
            x.advanceClock(100);
        }
        x.advanceClock(99);
        Check.same("clock", 9999, x.clock());
        Check.throwsAndKeeps(x, "hours 1 at the end", "IllegalStateException", () -> x.advanceClock(1));
        Check.throwsAndKeeps(x, "hours 100 at the end", "IllegalStateException", () -> x.advanceClock(100));
        Check.illegal("hours 101 at the end", () -> x.advanceClock(101));
        Check.illegal("hours 0 at the end", () -> x.advanceClock(0));
        x.undo();
        Check.same("clock", 9900, x.clock());
        Check.notNow("hours 100", () -> x.advanceClock(100));
        Check.due("hours 98", 2, () -> x.advanceClock(98));
        Check.due("hours 1", 2, () -> x.advanceClock(1));
        Check.same("clock", 9999, x.clock());
    }

    private static void undo() {
        TollTrees x = new TollTrees();
        Check.throwsAndKeeps(x, "undo nothing", "IllegalStateException", () -> x.undo());
        for (int i = 1; i <= 10; i++) {
            x.advanceClock(1);
            Check.same("undoable after " + i, Math.min(i, 8), x.undoableChanges());
        }
        for (int left = 7; left >= 0; left--) {
            int want = left;
            Check.due("undo", want, () -> x.undo());
            Check.same("clock after undo", 2 + left, x.clock());
            Check.same("undoable after undo", left, x.undoableChanges());
        }
        Check.throwsAndKeeps(x, "undo no more", "IllegalStateException", () -> x.undo());
        x.advanceClock(5);
        x.undo();
        Check.same("clock", 2, x.clock());
        Check.notNow("no redo", () -> x.undo());
    }

    private static void undoOfEveryChange() {
        TollTrees x = Check.loaded(HEAD);
        x.advanceClock(7);
        x.save(0);
        x.passCarts(0, 0, 9);
        Runnable[] changes = {
            () -> Check.load(x, Check.FIRST_SETUP), () -> Check.play(x, "pass g c 7;build h;toll c 9;hours 1;"),
            () -> x.passCarts(0, 1, 3), () -> x.passCarts(1, 0, 999), () -> {
                x.setCostLimit(0, 0);
                x.buildTree(0);
                x.undo();
            }, () -> x.halveCounts(1), () -> x.setToll(1, 0), () -> x.setCostLimit(1, 30),
            () -> x.advanceClock(100), () -> x.restore(0)};
        for (int i = 0; i < changes.length; i++) {
            String before = Check.seen(x);
            int undoable = x.undoableChanges();
            changes[i].run();
            Check.same("change " + i + " is one change", undoable + 1, x.undoableChanges());
            Check.same("change " + i + " has an effect", false, before.equals(Check.seen(x)));
            x.undo();
            Check.same("change " + i + " undone", before, Check.seen(x));
        }
        x.setCostLimit(0, 0);
        String before = Check.seen(x);
        x.buildTree(0);
        Check.same("a new tree", 1, x.nodeCount(0));
        x.undo();
        Check.same("build undone", before, Check.seen(x));
    }

    private static void undoAcrossTheRing() {
        TollTrees x = new TollTrees();
        java.util.ArrayList<String> states = new java.util.ArrayList<>();
        for (int i = 0; i < 30; i++) {
            states.add(Check.seen(x));
            x.setToll(i % 5, 10 + i);
            if (i % 3 == 2) {
                x.undo();
                Check.same("undone " + i, states.remove(states.size() - 1), Check.seen(x));
            }
        }
        for (int i = 0; x.undoableChanges() > 0; i++) {
            x.undo();
            Check.same("undone at the end " + i, states.remove(states.size() - 1), Check.seen(x));
        }
    }

    private static void saveAndRestore() {
        TollTrees x = new TollTrees();
        x.writeTree(0);
        for (int slot : new int[] {-1, 2, MIN, MAX}) {
            Check.throwsAndKeeps(x, "save " + slot, "IllegalArgumentException", () -> x.save(slot));
            Check.throwsAndKeeps(x, "restore " + slot, "IllegalArgumentException", () -> x.restore(slot));
        }
        Check.throwsAndKeeps(x, "restore nothing", "IllegalStateException", () -> x.restore(0));
        x.advanceClock(3);
        x.passCarts(1, 2, 4);
        String first = Check.seen(x);
        Check.due("save", 3, () -> x.save(0));
        Check.same("save is no change", 2, x.undoableChanges());
        Check.throwsAndKeeps(x, "the other slot", "IllegalStateException", () -> x.restore(1));
        Check.load(x, HEAD);
        x.advanceClock(8);
        String second = Check.seen(x);
        Check.due("save", 8, () -> x.save(1));
        Check.due("restore", 3, () -> x.restore(0));
        Check.same("restored", first, Check.seen(x));
        Check.same("restore is a change", 5, x.undoableChanges());
        x.advanceClock(1);
        x.setToll(0, 77);
        x.passCarts(1, 0, 9);
        x.halveCounts(1);
        Check.due("restore again", 3, () -> x.restore(0));
        Check.same("stays saved", first, Check.seen(x));
        Check.due("restore the other", 8, () -> x.restore(1));
        Check.same("restored", second, Check.seen(x));
        x.undo();
        Check.same("restore undone", first, Check.seen(x));
        x.advanceClock(1);
        Check.due("save over", 4, () -> x.save(1));
        x.advanceClock(1);
        Check.due("restore", 4, () -> x.restore(1));
        Check.due("restore the first", 3, () -> x.restore(0));
    }

    private static void whatUndoLeavesAlone() {
        TollTrees x = new TollTrees();
        x.advanceClock(1);
        x.save(0);
        x.undo();
        Check.due("undo leaves the saved states", 1, () -> x.restore(0));
        Check.play(x, "hours 0;");
        x.advanceClock(1);
        Check.feed(x, "hours 5;");
        x.writeTree(1);
        x.undo();
        Check.same("undo leaves the error", 2, x.errorCode());
        Check.same("undo leaves the offset", 6, x.errorOffset());
        Check.same("undo leaves the output", 119, x.outputByte(0));
        x.restore(0);
        Check.same("restore leaves the error", 2, x.errorCode());
        Check.same("restore leaves the output", 41, x.outputByte(32));
        Check.same("undo and restore leave the input", 1, x.play());
        Check.same("clock", 6, x.clock());
        x.writeTree(0);
        Check.load(x, HEAD);
        Check.same("load leaves the output", 41, x.outputByte(41));
        Check.due("load leaves the saved states", 1, () -> x.restore(0));
    }
}
