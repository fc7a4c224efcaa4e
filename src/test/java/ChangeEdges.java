/** The edges of promises 8 to 13: the calls that change a station. */
final class ChangeEdges {
    private static final String INDEX = "IndexOutOfBoundsException";
    private static final String ARGUMENT = "IllegalArgumentException";
    private static final String STATE = "IllegalStateException";
    private static final int MIN = Integer.MIN_VALUE;
    private static final int MAX = Integer.MAX_VALUE;

    /** Gate g is open from 6 to 8, gate h always; the clock is at 1 and the undoable changes are as many as are kept. */
    private static final Start BUSY = Start.busy(Parse.HEAD);

    private ChangeEdges() {
    }

    static void run() {
        passCarts();
        passCartsNumbers();
        passCartsClosed();
        passCartsOrder();
        buildTree();
        halveCounts();
        setToll();
        setCostLimit();
        advanceClock();
        advanceClockToTheEnd();
        openGates();
    }

    private static Start atHour(int hours) {
        return hours == 0 ? Start.loaded(Parse.HEAD) : Start.loaded(Parse.HEAD).then(x -> x.advanceClock(hours));
    }

    // ---- passCarts

    private static void passCarts() {
        Doc.about(8, "Lets carts of one type pass a gate.");
        Start start = Start.loaded(Texts.setup(3, 8, 4));
        for (int gate = 0; gate < 4; gate++) {
            for (int type = 0; type < 8; type++) {
                int g = gate;
                int t = type;
                Start passed = start.then(x -> x.passCarts(g, t, 7));
                StringBuilder want = new StringBuilder();
                for (int i = 0; i < 32; i++) {
                    want.append(i == g * 8 + t ? 8 : 1);
                }
                passed.answers("counts", want.toString(), x -> counts(x));
                passed.answers("totals", "7 21 " + 7 * (10 + t) + " " + 7 * (10 + t) + " 0 0 0 0", x -> Seen.totals(x));
                passed.answers("one change", 2, x -> x.undoableChanges());
                Doc.about(8, "Returns the toll that each of them pays.");
                start.answers("type " + t, 10 + t, x -> x.passCarts(g, t, 7));
            }
        }
    }

    private static String counts(TollTrees x) {
        StringBuilder counts = new StringBuilder();
        int gates = x.gateCount();
        int types = x.typeCount();
        for (int gate = 0; gate < gates; gate++) {
            for (int type = 0; type < types; type++) {
                counts.append(x.countAt(gate, type));
            }
        }
        return counts.toString();
    }

    private static void passCartsNumbers() {
        Doc.about(8, "`number`: the number of carts, 1 to 999");
        Start start = Start.loaded(Parse.HEAD);
        for (int number : new int[] {1, 2, 998, 999}) {
            start.then(x -> x.passCarts(1, 0, number)).answers("carts", number, x -> x.cartsPassed());
            start.then(x -> x.passCarts(1, 0, number)).answers("count", 3 + number, x -> x.countAt(1, 0));
        }
        Doc.about(8, "Throws `IllegalArgumentException` if number is out of range");
        for (int number : new int[] {-1, 0, 1000, -999, 65537, MIN, MAX, MIN + 1}) {
            BUSY.refuses(number + " carts", ARGUMENT, x -> x.passCarts(1, 0, number));
        }
    }

    private static void passCartsClosed() {
        Doc.about(8, "Throws `IllegalStateException` if the gate is closed");
        BUSY.refuses("closed", STATE, x -> x.passCarts(0, 0, 1));
        BUSY.refuses("closed", STATE, x -> x.passCarts(0, 1, 999));
        atHour(5).answers("before the opening hour", STATE, x -> x.passCarts(0, 0, 1));
        atHour(6).answers("at the opening hour", 4, x -> x.passCarts(0, 0, 1) + 1);
        atHour(8).answers("at the closing hour", 4, x -> x.passCarts(0, 0, 1) + 1);
        atHour(9).answers("behind the closing hour", STATE, x -> x.passCarts(0, 0, 1));
        atHour(29).answers("before the opening hour of the next day", STATE, x -> x.passCarts(0, 0, 1));
        atHour(30).answers("at the opening hour of the next day", 3, x -> x.passCarts(0, 0, 1));
        atHour(9).then(x -> x.undo()).answers("undone", STATE, x -> x.passCarts(0, 0, 1));
        atHour(6).then(x -> x.advanceClock(3)).then(x -> x.undo()).answers("undone", 3, x -> x.passCarts(0, 0, 1));
    }

    private static void passCartsOrder() {
        Doc.section(5, "If several exceptions apply, the one that is listed first is thrown.");
        for (int number : new int[] {0, 1000, MIN, MAX}) {
            BUSY.refuses("no gate, no type, no number, " + number, INDEX, x -> x.passCarts(2, 2, number));
            BUSY.refuses("no gate, no number, " + number, INDEX, x -> x.passCarts(-1, 0, number));
            BUSY.refuses("no type, no number, closed, " + number, INDEX, x -> x.passCarts(0, 2, number));
            BUSY.refuses("no type, no number, " + number, INDEX, x -> x.passCarts(1, -1, number));
            BUSY.refuses("no number, closed, " + number, ARGUMENT, x -> x.passCarts(0, 0, number));
        }
        BUSY.refuses("no type, closed", INDEX, x -> x.passCarts(0, 2, 1));
        for (int limit : new int[] {-1, 31, MIN, MAX}) {
            BUSY.refuses("setCostLimit, both", INDEX, x -> x.setCostLimit(2, limit));
            BUSY.refuses("bestErrors, both", INDEX, x -> x.bestErrors(2, limit));
            BUSY.refuses("bestWork, both", INDEX, x -> x.bestWork(-1, limit));
            BUSY.refuses("bestRootQuestion, both", INDEX, x -> x.bestRootQuestion(2, limit));
        }
        for (int toll : new int[] {-1, 100, MIN, MAX}) {
            BUSY.refuses("setToll, both", INDEX, x -> x.setToll(2, toll));
            BUSY.refuses("setToll, both", INDEX, x -> x.setToll(-1, toll));
        }
        Start end = TermEdges.LATE.then(x -> x.advanceClock(99));
        for (int hours : new int[] {-1, 0, 101, MIN, MAX}) {
            end.refuses("advanceClock, both, " + hours, ARGUMENT, x -> x.advanceClock(hours));
        }
        for (int slot : new int[] {-1, 2, MIN, MAX}) {
            Start.NEW.refuses("restore, both, " + slot, ARGUMENT, x -> x.restore(slot));
        }
    }

    // ---- buildTree, halveCounts

    private static void buildTree() {
        Doc.about(9, "Returns the number of nodes of the new tree.");
        for (int types = 1; types <= 8; types++) {
            Start start = Start.loaded(Texts.setup(3, types, 2).replace("gb 0 23 30", "gb 0 23 0"));
            start.answers("the same tree", 2 * types - 1, x -> x.buildTree(0));
            start.answers("a leaf", 1, x -> x.buildTree(1));
            start.then(x -> x.setCostLimit(0, 0)).answers("the most nodes pruned", 1, x -> x.buildTree(0));
            start.then(x -> x.setCostLimit(1, 3)).answers("a leaf grown", 2 * types - 1, x -> x.buildTree(1));
        }
        Doc.about(9, "Builds the tree of a gate from the present counts, tolls and cost limit.");
        Start start = Start.loaded("tolls;ask a 2;cart c 3;cart d 4 a;gate g 0 23 2 1 2;gate h 0 23 2 1 2;");
        Start.Run build = x -> x.buildTree(0);
        start.then(x -> x.setCostLimit(0, 1)).then(build).answers("limit 1", "=4", x -> Seen.tree(x, 0));
        start.then(x -> x.setCostLimit(0, 2)).then(build).answers("limit 2", "a(=4,=3)", x -> Seen.tree(x, 0));
        start.then(x -> x.setToll(0, 4)).then(build).answers("one toll", "=4", x -> Seen.tree(x, 0));
        start.then(x -> x.setToll(0, 99)).then(build).answers("another toll", "a(=4,=99)", x -> Seen.tree(x, 0));
        start.then(x -> x.halveCounts(0)).then(build).answers("no weight", "=4", x -> Seen.tree(x, 0));
        start.then(x -> x.setCostLimit(0, 1)).then(x -> x.passCarts(0, 0, 2)).then(build).answers("other counts", "=3",
            x -> Seen.tree(x, 0));
        start.then(x -> x.setToll(0, 99)).then(build).answers("the other gate", "a(=4,=3)", x -> Seen.tree(x, 1));
    }

    private static void halveCounts() {
        Doc.about(10, "Halves all counts of a gate, rounding down.");
        int[] counts = {0, 1, 2, 3, 4, 9997, 9998, 9999};
        int[] halves = {0, 0, 1, 1, 2, 4998, 4999, 4999};
        StringBuilder numbers = new StringBuilder();
        for (int count : counts) {
            numbers.append(' ').append(count);
        }
        Start start = Start.loaded("tolls;ask a 1;" + Texts.carts(0, 8) + "gate g 0 0 9" + numbers + ";gate h 1 1 9" + numbers
            + ";");
        Start halved = start.then(x -> x.halveCounts(0));
        for (int i = 0; i < 8; i++) {
            int type = i;
            halved.answers("half of " + counts[i], halves[i], x -> x.countAt(0, type));
            halved.answers("the other gate's " + counts[i], counts[i], x -> x.countAt(1, type));
            start.then(x -> Parse.play(x, "halve h;")).answers("by a command, half of " + counts[i], halves[i],
                x -> x.countAt(1, type));
        }
        Doc.about(10, "Returns the sum of the new counts.");
        start.answers("sum", 1 + 1 + 2 + 4998 + 4999 + 4999, x -> x.halveCounts(0));
        start.answers("sum at a closed gate", 1 + 1 + 2 + 4998 + 4999 + 4999, x -> x.halveCounts(1));
        Start.loaded("tolls;ask a 1;cart c 1;gate g 0 0 9 0;").answers("nothing", 0, x -> x.halveCounts(0));
        Start.loaded("tolls;ask a 1;cart c 1;gate g 0 0 9 1;").answers("one", 0, x -> x.halveCounts(0));
        Start.loaded("tolls;ask a 1;" + Texts.carts(0, 8) + "gate g 0 0 9" + " 9999".repeat(8) + ";").answers("the most",
            8 * 4999, x -> x.halveCounts(0));
        // What a larger station before had at its gates is no part of the sum.
        Start.loaded("tolls;ask a 1;" + Texts.carts(0, 8) + "gate g 0 0 9" + " 9999".repeat(8) + ";")
            .then(x -> Parse.load(x, "tolls;ask a 1;cart c 1;gate g 0 0 9 7;")).answers("behind a larger one", 3,
                x -> x.halveCounts(0));
    }

    // ---- setToll, setCostLimit

    private static void setToll() {
        Doc.about(11, "Sets the toll of a cart type.");
        Start start = Start.loaded(Texts.setup(3, 8, 1));
        for (int type = 0; type < 8; type++) {
            int t = type;
            Start set = start.then(x -> x.setToll(t, 50));
            for (int other = 0; other < 8; other++) {
                int o = other;
                set.answers("toll " + other, o == t ? 50 : 10 + o, x -> x.toll(o));
            }
            Doc.about(11, "Returns the previous toll.");
            start.answers("previous", 10 + t, x -> x.setToll(t, 0));
            set.answers("previous", 50, x -> x.setToll(t, 50));
        }
        Doc.about(11, "`toll`: the new toll, 0 to 99");
        for (int toll : new int[] {0, 1, 98, 99}) {
            BUSY.then(x -> x.setToll(1, toll)).answers("toll", toll, x -> x.toll(1));
        }
        BUSY.then(x -> x.setToll(1, 0)).answers("previous 0", 0, x -> x.setToll(1, 99));
        BUSY.then(x -> x.setToll(1, 99)).answers("previous 99", 99, x -> x.setToll(1, 0));
        Doc.about(11, "Throws `IllegalArgumentException` if toll is out of range");
        for (int toll : new int[] {-1, 100, 101, 256, MIN, MAX}) {
            BUSY.refuses("toll " + toll, ARGUMENT, x -> x.setToll(1, toll));
        }
    }

    private static void setCostLimit() {
        Doc.about(12, "Sets the cost limit of a gate.");
        Start start = Start.loaded("tolls;ask a 1;cart c 1;gate f 0 0 0 1;gate g 0 0 1 1;gate h 0 0 29 1;gate i 0 0 30 1;");
        int[] limits = {0, 1, 29, 30};
        for (int gate = 0; gate < 4; gate++) {
            int g = gate;
            Start set = start.then(x -> x.setCostLimit(g, 15));
            for (int other = 0; other < 4; other++) {
                int o = other;
                set.answers("limit " + other, o == g ? 15 : limits[o], x -> x.costLimit(o));
            }
            Doc.about(12, "Returns the previous cost limit.");
            start.answers("previous", limits[g], x -> x.setCostLimit(g, 3));
            set.answers("previous", 15, x -> x.setCostLimit(g, 15));
        }
        Doc.about(12, "`limit`: the new cost limit, 0 to 30");
        for (int limit : limits) {
            BUSY.then(x -> x.setCostLimit(0, limit)).answers("limit", limit, x -> x.costLimit(0));
        }
        Doc.about(12, "Throws `IllegalArgumentException` if limit is out of range");
        for (int limit : new int[] {-1, 31, 32, 256, MIN, MAX}) {
            BUSY.refuses("limit " + limit, ARGUMENT, x -> x.setCostLimit(0, limit));
        }
    }

    // ---- advanceClock

    private static void advanceClock() {
        Doc.about(13, "`hours`: the number of hours, 1 to 100");
        for (int hours : new int[] {1, 2, 99, 100}) {
            BUSY.then(x -> x.advanceClock(hours)).answers("clock", 1 + hours, x -> x.clock());
        }
        Doc.about(13, "Advances the clock.");
        BUSY.then(x -> x.advanceClock(100)).then(x -> x.advanceClock(100)).answers("twice", 201, x -> x.clock());
        Doc.about(13, "Throws `IllegalArgumentException` if hours is out of range");
        for (int hours : new int[] {-1, 0, 101, -100, MIN, MAX}) {
            BUSY.refuses(hours + " hours", ARGUMENT, x -> x.advanceClock(hours));
        }
    }

    private static void advanceClockToTheEnd() {
        Doc.about(13, "Throws `IllegalStateException` if the clock would exceed 9999");
        Start late = TermEdges.LATE;
        late.takes("to 9999", x -> x.advanceClock(99));
        late.then(x -> x.advanceClock(99)).answers("at 9999", 9999, x -> x.clock());
        late.refuses("to 10000", STATE, x -> x.advanceClock(100));
        Start end = late.then(x -> x.advanceClock(98));
        end.takes("to 9999", x -> x.advanceClock(1));
        end.refuses("to 10000", STATE, x -> x.advanceClock(2));
        Start over = late.then(x -> x.advanceClock(99));
        over.refuses("to 10000", STATE, x -> x.advanceClock(1));
        over.refuses("to 10099", STATE, x -> x.advanceClock(100));
        over.then(x -> x.undo()).takes("back from the end", x -> x.advanceClock(99));
    }

    private static void openGates() {
        Doc.about(13, "Returns the number of gates that are open afterwards.");
        Start start = Start.loaded("tolls;ask a 1;cart c 1;gate f 1 4 9 1;gate g 2 4 9 1;gate h 3 4 9 1;gate i 4 4 9 1;");
        int[] open = {0, 1, 2, 3, 4, 0};
        for (int hour = 1; hour <= 5; hour++) {
            int hours = hour;
            start.answers("open at " + hour, open[hour], x -> x.advanceClock(hours));
            start.answers("open at " + (24 + hour), open[hour], x -> x.advanceClock(24 + hours));
        }
        start.answers("open at 24", 0, x -> x.advanceClock(24));
        Start.loaded(Texts.setup(1, 1, 4)).answers("all", 4, x -> x.advanceClock(100));
        // A gate of the station before is open no more.
        Start.loaded(Texts.setup(1, 1, 4)).then(x -> Parse.load(x, Texts.setup(1, 1, 1))).answers("one", 1,
            x -> x.advanceClock(1));
    }
}
