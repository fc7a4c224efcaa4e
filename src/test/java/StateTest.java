/** Promises 17 to 39: questions, cart types, gates, the clock and the totals. */
public final class StateTest {
    private static final int NONE = TollTrees.NONE;
    private static final int MIN = Integer.MIN_VALUE;
    private static final int MAX = Integer.MAX_VALUE;

    public static void main(String[] args) {
        counts();
        questions();
        types();
        gates();
        openingHours();
        nameBytes();
        totals();
        totalsOfChangingTolls();
        totalsAfterLoad();
        Check.finish("StateTest");
    }

    private static void counts() {
        TollTrees x = new TollTrees();
        Check.same("questions", 3, x.questionCount());
        Check.same("types", 5, x.typeCount());
        Check.same("gates", 2, x.gateCount());
        Check.same("clock", 0, x.clock());
        x.advanceClock(100);
        x.advanceClock(7);
        Check.same("clock", 107, x.clock());
        Parse.load(x, "tolls;ask a 1;ask b 1;cart c 1;gate d 1 1 1 1;gate e 1 1 1 1;gate f 1 1 1 1;");
        Check.same("questions", 2, x.questionCount());
        Check.same("types", 1, x.typeCount());
        Check.same("gates", 3, x.gateCount());
        Check.same("clock", 0, x.clock());
        Check.same("undoable", 3, x.undoableChanges());
        x.undo();
        Check.same("gates", 2, x.gateCount());
        Check.same("undoable", 2, x.undoableChanges());
    }

    private static void questions() {
        TollTrees x = Check.loaded("tolls;ask a 1;ask b 9;ask c 4;ask d 2;ask e 3;ask f 5;"
            + "cart g 1 f;cart h 2 a c;cart i 3;gate j 1 1 1 1 1 1;");
        int[] costs = {1, 9, 4, 2, 3, 5};
        int[] yes = {2, 0, 2, 0, 0, 1};
        for (int question = 0; question < 6; question++) {
            Check.same("cost " + question, costs[question], x.questionCost(question));
            for (int type = 0; type < 3; type++) {
                Check.same("trait " + type + " " + question, (yes[question] >> type & 1) != 0, x.hasTrait(type, question));
            }
        }
    }

    private static void types() {
        TollTrees x = new TollTrees();
        int[] tolls = {2, 5, 7, 9, 3};
        for (int type = 0; type < 5; type++) {
            Check.same("toll " + type, tolls[type], x.toll(type));
        }
        x.setToll(2, 0);
        Check.same("new toll", 0, x.toll(2));
        x.undo();
        Check.same("old toll", 7, x.toll(2));
    }

    private static void gates() {
        TollTrees x = new TollTrees();
        int[][] counts = {{40, 25, 10, 15, 10}, {5, 50, 5, 30, 10}};
        Parse.load(x, "tolls;ask a 1;cart b 1;cart c 2;gate d 1 2 3 4 5;gate e 6 7 8 9999 0;");
        Check.same("count", 4, x.countAt(0, 0));
        Check.same("count", 5, x.countAt(0, 1));
        Check.same("count", 9999, x.countAt(1, 0));
        Check.same("count", 0, x.countAt(1, 1));
        Check.same("limit", 3, x.costLimit(0));
        Check.same("limit", 8, x.costLimit(1));
        x.undo();
        for (int gate = 0; gate < 2; gate++) {
            for (int type = 0; type < 5; type++) {
                Check.same("count " + gate + " " + type, counts[gate][type], x.countAt(gate, type));
            }
        }
    }

    /** Every pair of hours, at every hour of the day. */
    private static void openingHours() {
        for (int opening = 0; opening < 24; opening++) {
            for (int closing = 0; closing < 24; closing++) {
                openingHours(opening, closing);
            }
        }
    }

    private static void openingHours(int opening, int closing) {
        boolean[] open = new boolean[24];
        for (int hour = opening;; hour = (hour + 1) % 24) {
            open[hour] = true;
            if (hour == closing) {
                break;
            }
        }
        TollTrees x = Check.loaded("tolls;ask a 1;cart b 1;gate c " + opening + " " + closing + " 1 1;");
        for (int clock = 0; clock < 27; clock++) {
            int wait = 0;
            while (!open[(clock + wait) % 24]) {
                wait++;
            }
            String what = opening + " to " + closing + " at " + clock;
            Check.same(what + " open", open[clock % 24], x.isOpen(0));
            Check.same(what + " wait", wait, x.hoursUntilOpen(0));
            Check.same(what + " open after an hour", open[(clock + 1) % 24] ? 1 : 0, x.advanceClock(1));
        }
    }

    private static void nameBytes() {
        TollTrees x = Check.loaded("tolls;ask a 1;ask bcdefg 1;cart h 1;cart ijklmn 1;gate o 1 1 1 1 1;gate pqrstz 1 1 1 1 1;");
        name("a", "questionNameByte(0", i -> x.questionNameByte(0, i));
        name("bcdefg", "questionNameByte(1", i -> x.questionNameByte(1, i));
        name("h", "typeNameByte(0", i -> x.typeNameByte(0, i));
        name("ijklmn", "typeNameByte(1", i -> x.typeNameByte(1, i));
        name("o", "gateNameByte(0", i -> x.gateNameByte(0, i));
        name("pqrstz", "gateNameByte(1", i -> x.gateNameByte(1, i));
    }

    private static void name(String want, String call, java.util.function.IntUnaryOperator bytes) {
        for (int i = 0; i < 9; i++) {
            Check.same(call + ", " + i + ")", i < want.length() ? (int) want.charAt(i) : NONE, bytes.applyAsInt(i));
        }
        for (int i : new int[] {-1, -8, 64, 256, MIN, MAX}) {
            Check.same(call + ", " + i + ")", NONE, bytes.applyAsInt(i));
        }
    }

    private static void totals(TollTrees x, String what, int... want) {
        int[] got = {x.cartsPassed(), x.costAsked(), x.tollsPaid(), x.tollsDue(), x.cartsOvercharged(),
            x.cartsUndercharged(), x.overcharge(), x.undercharge()};
        String[] names = {"carts", "cost", "paid", "due", "overcharged", "undercharged", "excess", "shortage"};
        for (int i = 0; i < 8; i++) {
            Check.same(what + ": " + names[i], want[i], got[i]);
        }
    }

    private static void totals() {
        TollTrees x = new TollTrees();
        totals(x, "new", 0, 0, 0, 0, 0, 0, 0, 0);
        x.passCarts(1, 0, 3);
        totals(x, "right toll", 3, 6, 6, 6, 0, 0, 0, 0);
        x.passCarts(1, 2, 4);
        totals(x, "overcharged", 7, 14, 42, 34, 4, 0, 8, 0);
        x.setToll(3, 20);
        x.passCarts(1, 3, 5);
        totals(x, "undercharged", 12, 24, 87, 134, 4, 5, 8, 55);
        x.setToll(0, 0);
        x.passCarts(1, 0, 10);
        totals(x, "overcharged again", 22, 44, 107, 134, 14, 5, 28, 55);
        x.advanceClock(6);
        x.passCarts(0, 3, 2);
        totals(x, "other gate", 24, 52, 125, 174, 14, 7, 28, 77);
        x.undo();
        totals(x, "undone", 22, 44, 107, 134, 14, 5, 28, 55);
    }

    private static void totalsOfChangingTolls() {
        TollTrees x = Check.loaded("tolls;ask a 9;cart b 10;gate c 0 23 30 1;");
        x.passCarts(0, 0, 999);
        x.setToll(0, 99);
        totals(x, "the toll at the time when they passed", 999, 0, 9990, 9990, 0, 0, 0, 0);
        x.buildTree(0);
        x.setToll(0, 98);
        x.passCarts(0, 0, 2);
        totals(x, "another toll", 1001, 0, 9990 + 198, 9990 + 196, 2, 0, 2, 0);
    }

    private static void totalsAfterLoad() {
        TollTrees x = new TollTrees();
        x.passCarts(1, 2, 4);
        x.save(0);
        Parse.load(x, Check.FIRST_SETUP);
        totals(x, "load", 0, 0, 0, 0, 0, 0, 0, 0);
        Parse.load(x, Check.FIRST_SETUP + "pass south barrow 1;");
        totals(x, "load with a command", 1, 2, 2, 2, 0, 0, 0, 0);
        x.setToll(0, 9);
        x.setToll(1, 0);
        x.passCarts(1, 0, 1);
        x.passCarts(1, 1, 1);
        totals(x, "every total", 3, 6, 9, 11, 1, 1, 5, 7);
        Parse.load(x, Check.FIRST_SETUP);
        totals(x, "load sets every total to 0", 0, 0, 0, 0, 0, 0, 0, 0);
        x.undo();
        x.play();
        totals(x, "play keeps every total", 3, 6, 9, 11, 1, 1, 5, 7);
        Parse.load(x, Check.FIRST_SETUP);
        totals(x, "load after play sets every total to 0", 0, 0, 0, 0, 0, 0, 0, 0);
        for (int i = 0; i < 6; i++) {
            x.undo();
        }
        x.restore(0);
        totals(x, "restore", 4, 8, 36, 28, 4, 0, 8, 0);
        x.undo();
        totals(x, "undo", 1, 2, 2, 2, 0, 0, 0, 0);
    }
}
