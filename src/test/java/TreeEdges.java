/** The edges of promises 40 to 51: the present tree of a gate. */
final class TreeEdges {
    private static final int NONE = TollTrees.NONE;

    /** Gate g has the fullest tree, three questions deep, gate h a single leaf. */
    private static final Start FULL = Start.loaded(Texts.setup(3, 8, 2).replace("gb 0 23 30", "gb 0 23 0"));

    /** A chain of six questions: a type for each of them alone, and at the end one that says no to all. */
    private static final Start CHAIN = Start.loaded("tolls;" + Texts.asks(6) + "cart a 0 qa;cart b 1 qb;cart c 2 qc;"
        + "cart d 3 qd;cart e 98 qe;cart f 99 qf;cart g 50;cart h 7 qa qb;gate z 0 23 30 9000 4000 2000 1000 500 200 100 50;");

    /** Five types apart from each other only by four questions that cost 30 together; gate k may ask none of them. */
    private static final Start DEAR = Start.loaded("tolls;ask a 9;ask b 9;ask c 9;ask d 3;cart e 0;cart f 1 a;cart g 2 b;"
        + "cart h 3 c;cart i 4 d;gate j 0 23 30 1 1 1 1 1;gate k 0 23 0 1 1 1 1 1;");

    private TreeEdges() {
    }

    static void run() {
        nodeCount();
        nodeQuestion();
        leafToll();
        yesChild();
        noChild();
        typesAt();
        leafOf();
        chargedToll();
        pathCost();
        errors();
        work();
        mischargeOrder();
        mischargeTwins();
        mischargeSplits();
    }

    private static void nodeCount() {
        Doc.about(40, "Returns the size of the tree of a gate.");
        FULL.answers("the least", 1, x -> x.nodeCount(1));
        Doc.about(40, "Returns the number of nodes.");
        FULL.answers("the greatest", 15, x -> x.nodeCount(0));
        CHAIN.answers("the greatest, another shape", 15, x -> x.nodeCount(0));
        for (int types = 1; types <= 8; types++) {
            int nodes = 2 * types - 1;
            Start.loaded(Texts.setup(3, types, 1)).answers(types + " types", nodes, x -> x.nodeCount(0));
            Start.busy(Texts.setup(3, types, 1)).answers(types + " types", nodes, x -> x.nodeCount(0));
        }
    }

    private static void nodeQuestion() {
        Doc.about(41, "Returns the question of a node.");
        int[] full = {0, 1, 2, NONE, NONE, 2, NONE, NONE, 1, 2, NONE, NONE, 2, NONE, NONE};
        int[] chain = {0, 1, NONE, NONE, 1, NONE, 2, NONE, 3, NONE, 4, NONE, 5, NONE, NONE};
        for (int node = 0; node < 15; node++) {
            int n = node;
            Doc.about(41, "Returns the question; NONE for a leaf.");
            FULL.answers("node " + n, full[n], x -> x.nodeQuestion(0, n));
            CHAIN.answers("chain, node " + n, chain[n], x -> x.nodeQuestion(0, n));
        }
        FULL.answers("a single leaf", NONE, x -> x.nodeQuestion(1, 0));
    }

    private static void leafToll() {
        Doc.about(42, "Returns the toll of a leaf.");
        int[] full = {NONE, NONE, NONE, 17, 13, NONE, 15, 11, NONE, NONE, 16, 12, NONE, 14, 10};
        int[] chain = {NONE, NONE, 7, 0, NONE, 1, NONE, 2, NONE, 3, NONE, 98, NONE, 99, 50};
        for (int node = 0; node < 15; node++) {
            int n = node;
            Doc.about(42, "Returns the toll; NONE for an inner node.");
            FULL.answers("node " + n, full[n], x -> x.leafToll(0, n));
            CHAIN.answers("chain, node " + n, chain[n], x -> x.leafToll(0, n));
        }
        FULL.answers("a single leaf", 10, x -> x.leafToll(1, 0));
        FULL.then(x -> x.setToll(7, 99)).answers("the toll is the tree's", 17, x -> x.leafToll(0, 3));
    }

    private static void yesChild() {
        Doc.about(43, "Returns the yes child of a node.");
        int[] full = {1, 2, 3, NONE, NONE, 6, NONE, NONE, 9, 10, NONE, NONE, 13, NONE, NONE};
        for (int node = 0; node < 15; node++) {
            int n = node;
            Doc.about(43, "Returns the index of the child; NONE for a leaf.");
            FULL.answers("node " + n, full[n], x -> x.yesChild(0, n));
        }
        CHAIN.answers("the last inner node", 13, x -> x.yesChild(0, 12));
        CHAIN.answers("the last leaf", NONE, x -> x.yesChild(0, 14));
        FULL.answers("a single leaf", NONE, x -> x.yesChild(1, 0));
    }

    private static void noChild() {
        Doc.about(44, "Returns the no child of a node.");
        int[] full = {8, 5, 4, NONE, NONE, 7, NONE, NONE, 12, 11, NONE, NONE, 14, NONE, NONE};
        int[] chain = {4, 3, NONE, NONE, 6, NONE, 8, NONE, 10, NONE, 12, NONE, 14, NONE, NONE};
        for (int node = 0; node < 15; node++) {
            int n = node;
            Doc.about(44, "Returns the index of the child; NONE for a leaf.");
            FULL.answers("node " + n, full[n], x -> x.noChild(0, n));
            CHAIN.answers("chain, node " + n, chain[n], x -> x.noChild(0, n));
        }
        FULL.answers("a single leaf", NONE, x -> x.noChild(1, 0));
    }

    private static void typesAt() {
        Doc.about(45, "Returns the set of cart types at a node as a bit mask.");
        for (int types = 1; types <= 8; types++) {
            int all = (1 << types) - 1;
            Start.busy(Texts.setup(3, types, 1)).answers("the root of " + types, all, x -> x.typesAt(0, 0));
        }
        Doc.about(45, "Returns the mask; bit k is set if cart type k reaches the node.");
        int[] full = {255, 0xaa, 0x88, 128, 8, 0x22, 32, 2, 0x55, 0x44, 64, 4, 0x11, 16, 1};
        int[] chain = {255, 129, 128, 1, 126, 2, 124, 4, 120, 8, 112, 16, 96, 32, 64};
        for (int node = 0; node < 15; node++) {
            int n = node;
            FULL.answers("node " + n, full[n], x -> x.typesAt(0, n));
            CHAIN.answers("chain, node " + n, chain[n], x -> x.typesAt(0, n));
        }
        FULL.answers("a single leaf", 255, x -> x.typesAt(1, 0));
    }

    private static void leafOf() {
        Doc.about(46, "Returns the leaf that a cart type reaches.");
        int[] full = {14, 7, 11, 4, 13, 6, 10, 3};
        int[] chain = {3, 5, 7, 9, 11, 13, 14, 2};
        for (int type = 0; type < 8; type++) {
            int t = type;
            Doc.about(46, "Returns the index of the leaf.");
            FULL.answers("type " + t, full[t], x -> x.leafOf(0, t));
            FULL.answers("type " + t + " in a single leaf", 0, x -> x.leafOf(1, t));
            CHAIN.answers("chain, type " + t, chain[t], x -> x.leafOf(0, t));
        }
    }

    private static void chargedToll() {
        Doc.about(47, "Returns the toll that a cart type pays at a gate.");
        for (int type = 0; type < 8; type++) {
            int t = type;
            Doc.about(47, "Returns the toll of the leaf that it reaches.");
            FULL.answers("type " + t, 10 + t, x -> x.chargedToll(0, t));
            FULL.answers("type " + t + " in a single leaf", 10, x -> x.chargedToll(1, t));
            FULL.then(x -> x.setToll(t, 99)).answers("type " + t + ", its toll set", 10 + t, x -> x.chargedToll(0, t));
        }
        CHAIN.answers("the least", 0, x -> x.chargedToll(0, 0));
        CHAIN.answers("the greatest", 99, x -> x.chargedToll(0, 5));
        FULL.answers("as it pays", 10, x -> x.passCarts(1, 7, 1));
    }

    private static void pathCost() {
        Doc.about(48, "Returns the cost of the path of a cart type.");
        int[] chain = {2, 2, 3, 4, 5, 6, 6, 2};
        for (int type = 0; type < 8; type++) {
            int t = type;
            FULL.answers("type " + t, 3, x -> x.pathCost(0, t));
            FULL.answers("type " + t + " in a single leaf", 0, x -> x.pathCost(1, t));
            CHAIN.answers("chain, type " + t, chain[t], x -> x.pathCost(0, t));
        }
        Doc.about(48, "Returns the sum of the costs of the questions that it is asked.");
        DEAR.answers("the least", 0, x -> x.pathCost(1, 0));
        DEAR.answers("the greatest", 30, x -> x.pathCost(0, 0));
        FULL.then(x -> x.setCostLimit(0, 0)).answers("a lower limit does not matter", 3, x -> x.pathCost(0, 0));
    }

    private static void errors() {
        Doc.about(49, "Returns the errors of the present tree for the present counts and tolls.");
        FULL.answers("none", 0, x -> x.errors(0));
        FULL.answers("all but one", 7, x -> x.errors(1));
        FULL.then(x -> x.setToll(3, 99)).answers("one toll set", 1, x -> x.errors(0));
        FULL.then(x -> x.passCarts(1, 3, 999)).answers("another count", 1006, x -> x.errors(1));
        FULL.then(x -> x.passCarts(0, 3, 999)).answers("a count without error", 0, x -> x.errors(0));
        FULL.then(x -> x.halveCounts(1)).answers("no count", 0, x -> x.errors(1));
        FULL.then(x -> x.setCostLimit(1, 30)).answers("another limit", 7, x -> x.errors(1));
        Doc.about(49, "Returns the errors.");
        Start most = Start.loaded("tolls;ask a 1;" + Texts.carts(0, 8) + "gate g 0 23 0" + " 9999".repeat(8) + ";");
        most.answers("all but one", 7 * 9999, x -> x.errors(0));
        most.then(x -> x.setToll(0, 99)).answers("all", 8 * 9999, x -> x.errors(0));
    }

    private static void work() {
        Doc.about(50, "Returns the work of the present tree for the present counts.");
        FULL.answers("no question", 0, x -> x.work(1));
        FULL.answers("three of each", 24, x -> x.work(0));
        FULL.then(x -> x.passCarts(0, 5, 999)).answers("another count", 24 + 3 * 999, x -> x.work(0));
        FULL.then(x -> x.halveCounts(0)).answers("no count", 0, x -> x.work(0));
        FULL.then(x -> x.setToll(0, 99)).answers("another toll", 24, x -> x.work(0));
        FULL.then(x -> x.setCostLimit(0, 0)).answers("another limit", 24, x -> x.work(0));
        Doc.about(50, "Returns the work.");
        Start.loaded("tolls;ask qa 9;ask qb 9;ask qc 9;" + Texts.carts(3, 8) + "gate g 0 23 30" + " 9999".repeat(8) + ";")
            .answers("the most of three questions", 27 * 8 * 9999, x -> x.work(0));
        Start.loaded("tolls;ask a 9;ask b 9;ask c 9;ask d 3;cart e 0;cart f 1 a;cart g 2 b;cart h 3 c;cart i 4 d;"
            + "gate j 0 23 30 9999 0 0 0 1;").answers("one path, one question", 3 * 10000, x -> x.work(0));
    }

    // ---- mischargeReason

    private static void reason(Start start, String what, int want, int type) {
        start.answers(what, want, x -> x.mischargeReason(0, type));
    }

    private static void mischargeOrder() {
        Doc.about(51, "Explains why a cart type does not pay its own toll at a gate.");
        reason(FULL, "pays its own toll", 0, 7);
        reason(FULL.then(x -> x.setToll(7, 99)), "its toll is another now", 3, 7);
        Doc.about(51, "The first reason that applies is returned.");
        // Types c and d are twins, e is not; all are in one leaf, which takes the toll of c.
        Start start = Start.loaded("tolls;ask a 9;cart c 1;cart d 2;cart e 3 a;gate g 0 23 0 9 1 1;");
        reason(start, "0 before 2", 0, 0);
        reason(start, "1 before 2", 1, 1);
        reason(start, "2, for no twin has that toll", 2, 2);
        reason(start.then(x -> x.setToll(1, 1)), "0 before 1 and 2", 0, 0);
        reason(start.then(x -> x.setToll(1, 1)), "0 before 1 and 2", 0, 1);
        reason(start.then(x -> x.setToll(0, 5)), "2 where it was 1", 2, 1);
        reason(start.then(x -> x.setToll(0, 5)), "2 where it was 0", 2, 0);
    }

    private static void mischargeTwins() {
        Doc.about(51, "1 if another cart type has the same answers to all questions and a toll equal to the toll paid;");
        Start start = Start.loaded("tolls;" + Texts.asks(6) + "cart c 1 qf;cart d 2 qf;cart e 1;cart f 0 qa;"
            + "gate g 0 23 9 5 9 5 5;");
        reason(start, "the toll of its twin", 1, 0);
        reason(start, "pays its own toll", 0, 1);
        // Now no twin of it, but only a type that differs in the last question, or itself, has the toll that is paid.
        reason(start.then(x -> x.setToll(1, 3)), "its own toll has changed", 3, 1);
        reason(start.then(x -> x.setToll(1, 3)), "the twin's toll has changed", 3, 0);
        reason(start.then(x -> x.setToll(1, 3)).then(x -> x.setToll(2, 2)), "a type with another answer has it", 3, 0);
        reason(start.then(x -> x.setToll(1, 1)).then(x -> x.setToll(0, 2)), "the twins have changed", 1, 1);
        reason(start.then(x -> x.setToll(1, 1)).then(x -> x.setToll(0, 2)), "the twins have changed", 0, 0);
        Start.loaded("tolls;ask a 1;" + Texts.carts(0, 8) + "gate g 0 23 9 1 1 1 1 1 1 1 9;").answers(
            "the last of many twins", 1, x -> x.mischargeReason(0, 0));
        Start.loaded("tolls;ask a 1;" + Texts.carts(0, 8) + "gate g 0 23 9 9 1 1 1 1 1 1 1;").answers(
            "the first of many twins", 1, x -> x.mischargeReason(0, 7));
    }

    private static void mischargeSplits() {
        Doc.about(51, "2 if the leaf is reached by cart types that some question would split; 3 otherwise.");
        // Leaf of c, d and e: c and d are twins, only e is apart from them, by the last question.
        Start start = Start.loaded("tolls;" + Texts.asks(5) + "ask qf 9;cart c 1 qa;cart d 2 qa;cart e 3 qa qf;cart f 4;"
            + "gate g 0 23 1 1 1 9 9;");
        start.answers("the tree", "qa(=3,=4)", x -> Seen.tree(x, 0));
        reason(start, "twins in a leaf with another", 2, 0);
        reason(start, "twins in a leaf with another", 2, 1);
        reason(start, "pays its own toll", 0, 2);
        reason(start.then(x -> x.setToll(2, 9)), "the other one", 2, 2);
        reason(start.then(x -> x.setToll(3, 9)), "alone in its leaf", 3, 3);
        Start twins = Start.loaded("tolls;ask a 1;cart c 1;cart d 2;gate g 0 23 9 1 2;").then(x -> x.setToll(1, 3));
        reason(twins, "no question splits twins", 3, 0);
        reason(twins, "no question splits twins", 3, 1);
        reason(FULL.then(x -> x.setCostLimit(0, 0)).then(x -> x.buildTree(0)), "each question would", 2, 1);
    }
}
