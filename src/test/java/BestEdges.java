/** The edges of promises 52 to 58: best trees that are not built, and the gates that are found. */
final class BestEdges {
    private static final int NONE = TollTrees.NONE;
    private static final int MIN = Integer.MIN_VALUE;
    private static final int MAX = Integer.MAX_VALUE;
    private static final String ARGUMENT = "IllegalArgumentException";

    /** Five types that only four questions of 30 together set apart; gate j may ask them all, gate k none. */
    private static final Start DEAR = Start.loaded("tolls;ask a 9;ask b 9;ask c 9;ask d 3;cart e 0;cart f 1 a;cart g 2 b;"
        + "cart h 3 c;cart i 4 d;gate j 0 23 30 1 1 1 1 1;gate k 0 23 0 1 1 1 1 1;");

    private static final Start FULL = Start.loaded(Texts.setup(6, 8, 2).replace("gb 0 23 30", "gb 0 23 0"));

    private BestEdges() {
    }

    static void run() {
        bestOfEveryLimit();
        bestOfPresent();
        limitsOutside();
        greatestWork();
        errorsWithout();
        sufficientLimit();
        sufficientLimits();
        stalestGate();
        stalestByErrors();
        stalestByWork();
        notStale();
        quickestGate();
        quickestOpenGate();
        quickestTies();
    }

    // ---- bestErrors, bestWork, bestRootQuestion

    private static void bestOfEveryLimit() {
        // With 3 the cheap question may be asked, with 12, 21 and 30 a dear one more each time.
        int[] from = {0, 3, 12, 21, 30, 31};
        int[] errors = {4, 3, 2, 1, 0};
        int[] work = {0, 15, 51, 78, 96};
        int[] root = {NONE, 3, 3, 3, 3};
        for (int step = 0; step < 5; step++) {
            for (int limit = from[step]; limit < from[step + 1]; limit++) {
                for (int gate = 0; gate < 2; gate++) {
                    int g = gate;
                    int l = limit;
                    String what = "gate " + g + ", limit " + l;
                    Doc.about(52, "Returns the errors of the best tree for the present counts and tolls of a gate and some");
                    Doc.about(52, "`limit`: a cost limit, 0 to 30");
                    DEAR.answers(what, errors[step], x -> x.bestErrors(g, l));
                    Doc.about(53, "Returns the work of the best tree for the present counts and tolls of a gate and some");
                    Doc.about(53, "`limit`: a cost limit, 0 to 30");
                    DEAR.answers(what, work[step], x -> x.bestWork(g, l));
                    Doc.about(54, "Returns the question at the root of the best tree for the present counts and tolls");
                    Doc.about(54, "`limit`: a cost limit, 0 to 30");
                    DEAR.answers(what, root[step], x -> x.bestRootQuestion(g, l));
                }
            }
        }
    }

    private static void bestOfPresent() {
        Start counted = DEAR.then(x -> x.passCarts(1, 2, 999));
        Start tolled = DEAR.then(x -> x.setToll(4, 0)).then(x -> x.setToll(3, 0)).then(x -> x.setToll(2, 0));
        Start empty = DEAR.then(x -> x.halveCounts(0));
        Doc.about(52, "Returns the errors.");
        counted.answers("counts", 4, x -> x.bestErrors(1, 0));
        counted.then(x -> x.setToll(2, 99)).answers("counts and tolls", 4, x -> x.bestErrors(1, 2));
        tolled.answers("tolls", 1, x -> x.bestErrors(0, 8));
        tolled.answers("tolls", 0, x -> x.bestErrors(0, 9));
        empty.answers("no counts", 0, x -> x.bestErrors(0, 0));
        Doc.about(53, "Returns the work.");
        counted.answers("counts", 9 * 1004 + 3 * 4, x -> x.bestWork(1, 12));
        tolled.answers("tolls", 45, x -> x.bestWork(0, 30));
        empty.answers("no counts", 0, x -> x.bestWork(0, 30));
        Doc.about(54, "Returns the question; NONE if the best tree is a leaf.");
        counted.answers("counts", 1, x -> x.bestRootQuestion(1, 30));
        tolled.answers("tolls", 0, x -> x.bestRootQuestion(0, 30));
        tolled.answers("tolls", NONE, x -> x.bestRootQuestion(0, 8));
        empty.answers("no counts", NONE, x -> x.bestRootQuestion(0, 30));
        FULL.answers("the lowest question", 0, x -> x.bestRootQuestion(0, 1));
        Start last = Start.loaded("tolls;" + Texts.asks(6) + "cart c 1;cart d 2 qf;gate g 0 0 0 1 1;");
        last.answers("the highest question", 5, x -> x.bestRootQuestion(0, 1));
        last.answers("a leaf", NONE, x -> x.bestRootQuestion(0, 0));
    }

    private static void limitsOutside() {
        Start busy = Start.busy(Texts.setup(3, 5, 2));
        for (int limit : new int[] {-1, 31, 32, 62, MIN, MAX}) {
            Doc.about(52, "Throws `IllegalArgumentException` if limit is out of range");
            busy.refuses("bestErrors " + limit, ARGUMENT, x -> x.bestErrors(0, limit));
            Doc.about(53, "Throws `IllegalArgumentException` if limit is out of range");
            busy.refuses("bestWork " + limit, ARGUMENT, x -> x.bestWork(1, limit));
            Doc.about(54, "Throws `IllegalArgumentException` if limit is out of range");
            busy.refuses("bestRootQuestion " + limit, ARGUMENT, x -> x.bestRootQuestion(0, limit));
        }
        for (int limit : new int[] {0, 30}) {
            busy.keeps("bestErrors " + limit, x -> x.bestErrors(0, limit));
            busy.keeps("bestWork " + limit, x -> x.bestWork(1, limit));
            busy.keeps("bestRootQuestion " + limit, x -> x.bestRootQuestion(0, limit));
        }
    }

    private static void greatestWork() {
        Doc.about(53, "Returns the work.");
        String nines = " 9999".repeat(8) + ";";
        Start start = Start.loaded("tolls;ask qa 9;ask qb 9;ask qc 9;" + Texts.carts(3, 8) + "gate g 0 23 0" + nines);
        start.answers("three questions for all", 27 * 8 * 9999, x -> x.bestWork(0, 27));
        start.answers("two questions for all", 18 * 8 * 9999, x -> x.bestWork(0, 26));
        start.answers("errors of two questions", 4 * 9999, x -> x.bestErrors(0, 26));
        start.answers("errors of a leaf", 7 * 9999, x -> x.bestErrors(0, 8));
        start.then(x -> x.setCostLimit(0, 30)).answers("a gain of the most errors", 0, x -> x.stalestGate());
    }

    // ---- errorsWithout, sufficientLimit

    private static void errorsWithout() {
        Doc.about(55, "Returns the errors of the best tree, for the present counts, tolls and cost limit of a gate,");
        int[] without = {4, 4, 4, 0, 0, 0};
        for (int question = 0; question < 6; question++) {
            int q = question;
            FULL.then(x -> Parse.load(x, "tolls;" + Texts.asks(6) + Texts.carts(3, 8) + "gate g 0 23 3 1 1 1 1 1 1 1 1;"))
                .answers("without " + q, without[q], x -> x.errorsWithout(0, q));
            FULL.answers("a gate that may ask none, without " + q, 7, x -> x.errorsWithout(1, q));
        }
        Doc.about(55, "Returns the errors.");
        Start.loaded(Texts.setup(1, 2, 1)).answers("without the only question", 1, x -> x.errorsWithout(0, 0));
        DEAR.answers("without a dear question", 1, x -> x.errorsWithout(0, 2));
        DEAR.answers("without the cheap question", 1, x -> x.errorsWithout(0, 3));
        Start less = DEAR.then(x -> x.setCostLimit(0, 21));
        less.answers("limit 21, without a dear question", 1, x -> x.errorsWithout(0, 0));
        less.answers("limit 21, without the cheap question", 2, x -> x.errorsWithout(0, 3));
        DEAR.then(x -> x.setCostLimit(0, 20)).answers("limit 20, without a dear question", 2, x -> x.errorsWithout(0, 0));
        DEAR.then(x -> x.passCarts(0, 4, 999)).answers("the present counts", 1, x -> x.errorsWithout(0, 3));
        DEAR.then(x -> x.setToll(4, 0)).answers("the present tolls", 0, x -> x.errorsWithout(0, 3));
        DEAR.answers("as good as with all", 0, x -> x.errorsWithout(0, 3) - x.bestErrors(0, 27));
        Start.busy(Texts.setup(6, 8, 2)).keeps("errorsWithout", x -> x.errorsWithout(0, 0));
    }

    private static void sufficientLimit() {
        Doc.about(56, "Returns the least cost limit for which the best tree of a gate has as few errors as with the cost");
        for (int cost = 1; cost <= 9; cost++) {
            Start.loaded("tolls;ask a " + cost + ";cart c 1 a;cart d 2;gate g 0 23 0 1 1;").answers("a question of " + cost,
                cost, x -> x.sufficientLimit(0));
            Start.loaded("tolls;ask a 9;ask b 9;ask c " + cost + ";cart c 1;cart d 2 a;cart e 3 b;cart f 4 c;"
                + "gate g 0 23 0 1 1 1 1;").answers("three questions, " + cost, 18 + cost, x -> x.sufficientLimit(0));
        }
        FULL.answers("three questions of 1", 3, x -> x.sufficientLimit(0));
        FULL.answers("the gate's own limit does not matter", 3, x -> x.sufficientLimit(1));
        FULL.keeps("sufficientLimit", x -> x.sufficientLimit(0));
    }

    private static void sufficientLimits() {
        Doc.about(56, "Returns the cost limit, 0 to 30.");
        Start.loaded("tolls;ask a 1;cart c 1;gate g 0 23 9 1;").answers("one type", 0, x -> x.sufficientLimit(0));
        DEAR.answers("the greatest", 30, x -> x.sufficientLimit(0));
        DEAR.answers("the greatest", 30, x -> x.sufficientLimit(1));
        DEAR.then(x -> x.halveCounts(0)).answers("no carts", 0, x -> x.sufficientLimit(0));
        DEAR.then(x -> x.setToll(4, 0)).answers("a toll that two have", 27, x -> x.sufficientLimit(0));
        Start.loaded("tolls;ask a 9;ask b 9;ask c 9;ask d 4;cart e 0;cart f 1 a;cart g 2 b;cart h 3 c;cart i 4 d;"
            + "gate j 0 23 30 1 1 1 1 1;").answers("31 would be needed for all", 22, x -> x.sufficientLimit(0));
        Start.loaded("tolls;ask a 1;cart c 1;cart d 2;gate g 0 23 9 1 1;").answers("no question helps", 0,
            x -> x.sufficientLimit(0));
    }

    // ---- stalestGate

    private static final String TWO_TYPES = "tolls;ask a 1;cart c 1 a;cart d 2;";

    /** Gates that asked nothing when they were loaded, and may ask now. */
    private static Start grown(String... counts) {
        return stale(0, "limit", " 1", counts);
    }

    /** Gates that asked a question when they were loaded, and then lost half of their carts. */
    private static Start halved(String... counts) {
        return stale(1, "halve", "", counts);
    }

    /** A gate with the limit for each of the counts, and then a command for each of the gates. */
    private static Start stale(int limit, String command, String number, String... counts) {
        StringBuilder gates = new StringBuilder();
        StringBuilder commands = new StringBuilder();
        for (int gate = 0; gate < counts.length; gate++) {
            char name = (char) ('e' + gate);
            gates.append("gate ").append(name).append(" 0 23 ").append(limit).append(' ').append(counts[gate]).append(';');
            commands.append(command).append(' ').append(name).append(number).append(';');
        }
        return Start.loaded(TWO_TYPES + gates + commands);
    }

    private static void stalest(String what, int want, Start start) {
        start.answers(what, want, x -> x.stalestGate());
    }

    private static void stalestGate() {
        Doc.about(57, "Finds the gate that would gain most if its tree was built anew.");
        stalest("one error at the first gate", 0, grown("9 1", "9 0", "9 0", "9 0"));
        stalest("one error at the last gate", 3, grown("9 0", "9 0", "9 0", "9 1"));
        stalest("most errors at the second gate", 1, grown("9 4", "9 5", "9 3", "9 2"));
        grown("9 4", "9 5").keeps("stalestGate", x -> x.stalestGate());
        Start.busy(Texts.setup(6, 8, 4)).keeps("stalestGate", x -> x.stalestGate());
        Start all = grown("9999 9999", "9999 9998");
        stalest("the most carts", 0, all);
        stalest("built anew", 1, all.then(x -> x.buildTree(0)));
        stalest("both built anew", NONE, all.then(x -> x.buildTree(0)).then(x -> x.buildTree(1)));
    }

    private static void stalestByErrors() {
        Doc.about(57, "The gain is the reduction of errors; a tie goes to the greater reduction of work,");
        stalest("more errors, much more work", 1, grown("9 8", "9999 9"));
        stalest("the same errors, one more cart of work", 1, grown("9 5", "8 5", "9 5"));
        stalest("the same errors and work", 1, grown("9 4", "9 5", "9 5"));
        stalest("the same errors and work, other types", 0, grown("9 5", "5 9", "9 5"));
        stalest("all the same", 0, grown("5 5", "5 5", "5 5", "5 5"));
        // One error weighs more than the work of a gate that lost nearly all its carts.
        Start mixed = Start.loaded(TWO_TYPES + "gate e 0 23 1 9999 1;gate f 0 23 0 9999 1;halve e;limit f 1;");
        stalest("one error before much work", 1, mixed);
        stalest("much work", 0, mixed.then(x -> x.buildTree(1)));
    }

    private static void stalestByWork() {
        Doc.about(57, "and then to the lowest gate index.");
        stalest("a gain of one", 0, halved("2 1"));
        stalest("the greatest gain of work", 2, halved("4 1", "6 1", "8 1", "6 1"));
        stalest("the greatest gain of work, twice", 1, halved("6 1", "8 1", "8 1", "6 1"));
        stalest("all the same", 0, halved("8 1", "8 1", "8 1", "8 1"));
        stalest("a gain of one at the last gate", 3, halved("0 1", "0 1", "0 1", "2 1"));
    }

    private static void notStale() {
        Doc.about(57, "Returns the gate; NONE if no gate would have fewer errors, or the same errors and less work.");
        stalest("new", NONE, Start.NEW);
        stalest("four gates as loaded", NONE, Start.loaded(Texts.setup(6, 8, 4)));
        stalest("no carts are left", NONE, halved("1 1", "1 1"));
        stalest("other limits, no carts", NONE, grown("9 0", "0 9"));
        Start pruned = Start.loaded(TWO_TYPES + "gate e 0 23 1 5 5;limit e 0;");
        stalest("more errors", NONE, pruned);
        stalest("more errors, and another toll", NONE, pruned.then(x -> x.setCostLimit(0, 0)));
        // With limit 3 the many carts are asked one question, with limit 2 all are asked two.
        String four = "tolls;ask a 1;ask b 1;ask d 1;cart c 1 a b d;cart e 2 b;cart f 3 d;cart g 4;gate h 0 23 ";
        stalest("the same errors, less work", 0, Start.loaded(four + "2 99 1 1 1;limit h 3;"));
        stalest("the same errors, more work", NONE, Start.loaded(four + "3 99 1 1 1;limit h 2;"));
        stalest("the same errors and work", NONE, Start.loaded(four + "2 1 1 1 1;limit h 3;"));
        stalest("a gain at a closed gate", 0, Start.loaded(TWO_TYPES + "gate e 5 5 0 9 9;limit e 1;"));
    }

    // ---- quickestGate

    private static void quickestGate() {
        Doc.about(58, "Finds the open gate where a cart type has the least path cost.");
        String head = "tolls;ask a 3;ask b 2;cart c 1 a b;cart d 2 a;cart e 3 b;cart f 4;";
        Start start = Start.loaded(head + "gate g 0 23 9 1 1 1 1;gate h 0 23 4 1 1 1 1;gate i 0 23 2 1 1 1 1;"
            + "gate j 0 23 0 1 1 1 1;");
        start.answers("the costs", "5 2 2 0", x -> costs(x, 0));
        start.answers("no question", 3, x -> x.quickestGate(0));
        Start closed = Start.loaded(head + "gate g 0 23 9 1 1 1 1;gate h 0 23 3 9 1 9 1;gate i 0 23 2 1 1 1 1;"
            + "gate j 5 5 0 1 1 1 1;");
        closed.answers("the costs", "5 3 2 0", x -> costs(x, 0));
        closed.answers("the least of the three that are open", 2, x -> x.quickestGate(0));
        closed.then(x -> x.advanceClock(5)).answers("the least of four", 3, x -> x.quickestGate(0));
        Start by = Start.loaded("tolls;ask a 2;ask b 1;cart c 1 a;cart d 2;cart e 3 b;gate g 0 23 2 9 9 1;gate h 0 23 1 1 9 9;");
        by.answers("the costs", "2 1", x -> x.pathCost(0, 0) + " " + x.pathCost(1, 0));
        by.answers("less by one", 1, x -> x.quickestGate(0));
        by.keeps("quickestGate", x -> x.quickestGate(0));
    }

    private static String costs(TollTrees x, int type) {
        return x.pathCost(0, type) + " " + x.pathCost(1, type) + " " + x.pathCost(2, type) + " " + x.pathCost(3, type);
    }

    private static void quickestOpenGate() {
        Doc.about(58, "Returns the gate; NONE if no gate is open.");
        Start start = Start.loaded("tolls;ask a 1;cart c 1;gate f 2 2 9 1;gate g 4 4 9 1;gate h 6 7 9 1;gate i 23 0 9 1;");
        int[] open = {3, NONE, 0, NONE, 1, NONE, 2, 2, NONE};
        for (int hour = 0; hour < open.length; hour++) {
            int hours = hour;
            Start then = hours == 0 ? start : start.then(x -> x.advanceClock(hours));
            then.answers("at " + hours, open[hours], x -> x.quickestGate(0));
        }
        start.then(x -> x.advanceClock(22)).answers("at 22", NONE, x -> x.quickestGate(0));
        start.then(x -> x.advanceClock(23)).answers("at 23", 3, x -> x.quickestGate(0));
        start.then(x -> x.advanceClock(25)).answers("at 25", NONE, x -> x.quickestGate(0));
    }

    private static void quickestTies() {
        Doc.about(58, "A tie goes to the lower toll paid, and then to the lowest gate index.");
        String head = "tolls;ask a 1;cart c 5;cart d 4;cart e 3;";
        Start three = Start.loaded(head + "gate g 0 23 0 9 1 1;gate h 0 23 0 1 9 1;gate i 0 23 0 1 1 9;gate j 0 23 0 1 1 9;");
        for (int type = 0; type < 3; type++) {
            int t = type;
            three.answers("the lowest toll of all", 2, x -> x.quickestGate(t));
        }
        Start same = Start.loaded(Texts.setup(1, 2, 4));
        same.answers("all the same", 0, x -> x.quickestGate(0));
        Start closed = Start.loaded(head + "gate g 5 5 0 9 1 1;gate h 0 23 0 1 9 1;gate i 0 23 0 1 9 1;gate j 0 23 0 9 1 1;");
        closed.answers("the lowest open index", 1, x -> x.quickestGate(0));
        Start cost = Start.loaded("tolls;ask a 1;cart c 1 a;cart d 2;gate g 0 23 1 9 9;gate h 0 23 0 1 9;");
        cost.answers("less cost before a lower toll", 1, x -> x.quickestGate(0));
        Start tolls = three.then(x -> x.setToll(2, 99));
        tolls.answers("the toll that is paid, not the present one", 2, x -> x.quickestGate(2));
        tolls.then(x -> x.buildTree(2)).answers("built anew", 3, x -> x.quickestGate(2));
        Start zero = Start.loaded("tolls;ask a 1;cart c 1;cart d 0;gate g 0 23 0 9 1;gate h 0 23 0 1 9;");
        zero.answers("toll 0", 1, x -> x.quickestGate(0));
    }
}
