/**
 * The indexes of questions, cart types, gates and nodes, in every call that takes one: the least and the greatest are
 * taken, at every size of a station; what is just outside, or far outside, is refused and changes nothing. Before the
 * station that is tested there was the largest one, so that an index of that is outside too.
 */
final class IndexEdges {
    private static final String OUTSIDE = "IndexOutOfBoundsException";
    private static final int MIN = Integer.MIN_VALUE;
    private static final int MAX = Integer.MAX_VALUE;
    private static final int GATES = 4;
    private static final int TYPES = 8;
    private static final int QUESTIONS = 6;

    /** A call with one index. */
    interface One {
        Object of(TollTrees x, int index);
    }

    /** A call with two indexes. */
    interface Two {
        Object of(TollTrees x, int first, int second);
    }

    private static final Start[] BY_GATES = new Start[GATES + 1];
    private static final Start[] BY_TYPES = new Start[TYPES + 1];
    private static final Start[] BY_QUESTIONS = new Start[QUESTIONS + 1];

    private IndexEdges() {
    }

    static void run() {
        for (int gates = 1; gates <= GATES; gates++) {
            BY_GATES[gates] = Start.busy(Texts.setup(3, 5, gates));
        }
        for (int types = 1; types <= TYPES; types++) {
            BY_TYPES[types] = Start.busy(Texts.setup(3, types, 2));
        }
        for (int questions = 1; questions <= QUESTIONS; questions++) {
            BY_QUESTIONS[questions] = Start.busy(Texts.setup(questions, 4, 2));
        }
        gates();
        gatesWithNumbers();
        types();
        questions();
        nodes();
        gatesAndTypes();
        others();
    }

    private static void gates() {
        gate(9, "buildTree", (x, g) -> x.buildTree(g));
        gate(10, "halveCounts", (x, g) -> x.halveCounts(g));
        gate(26, "costLimit", (x, g) -> x.costLimit(g));
        gate(27, "isOpen", (x, g) -> x.isOpen(g));
        gate(28, "hoursUntilOpen", (x, g) -> x.hoursUntilOpen(g));
        gate(40, "nodeCount", (x, g) -> x.nodeCount(g));
        gate(49, "errors", (x, g) -> x.errors(g));
        gate(50, "work", (x, g) -> x.work(g));
        gate(56, "sufficientLimit", (x, g) -> x.sufficientLimit(g));
        gate(60, "meanPathCost", (x, g) -> x.meanPathCost(g));
        gate(62, "writeTree", (x, g) -> x.writeTree(g));
    }

    private static void gatesWithNumbers() {
        gate(12, "setCostLimit 5", (x, g) -> x.setCostLimit(g, 5));
        gate(31, "gateNameByte 0", (x, g) -> x.gateNameByte(g, 0));
        gate(52, "bestErrors 5", (x, g) -> x.bestErrors(g, 5));
        gate(53, "bestWork 5", (x, g) -> x.bestWork(g, 5));
        gate(54, "bestRootQuestion 5", (x, g) -> x.bestRootQuestion(g, 5));
    }

    private static void types() {
        type(11, "setToll 5", (x, t) -> x.setToll(t, 5));
        type(24, "toll", (x, t) -> x.toll(t));
        type(30, "typeNameByte 0", (x, t) -> x.typeNameByte(t, 0));
        type(58, "quickestGate", (x, t) -> x.quickestGate(t));
    }

    private static void questions() {
        question(22, "questionCost", (x, q) -> x.questionCost(q));
        question(29, "questionNameByte 0", (x, q) -> x.questionNameByte(q, 0));
    }

    private static void nodes() {
        node(41, "nodeQuestion", (x, g, n) -> x.nodeQuestion(g, n));
        node(42, "leafToll", (x, g, n) -> x.leafToll(g, n));
        node(43, "yesChild", (x, g, n) -> x.yesChild(g, n));
        node(44, "noChild", (x, g, n) -> x.noChild(g, n));
        node(45, "typesAt", (x, g, n) -> x.typesAt(g, n));
    }

    private static void gatesAndTypes() {
        gateAndType(8, "passCarts 1", (x, g, t) -> x.passCarts(g, t, 1));
        gateAndType(25, "countAt", (x, g, t) -> x.countAt(g, t));
        gateAndType(46, "leafOf", (x, g, t) -> x.leafOf(g, t));
        gateAndType(47, "chargedToll", (x, g, t) -> x.chargedToll(g, t));
        gateAndType(48, "pathCost", (x, g, t) -> x.pathCost(g, t));
        gateAndType(51, "mischargeReason", (x, g, t) -> x.mischargeReason(g, t));
    }

    private static void others() {
        Two has = (x, t, q) -> x.hasTrait(t, q);
        inAndOut(23, "`type`: index of a cart type", "if the cart type or the question does not exist", "hasTrait",
            BY_TYPES, (x, t) -> has.of(x, t, 0));
        inAndOut(23, "`question`: index of a question", "if the cart type or the question does not exist", "hasTrait",
            BY_QUESTIONS, (x, q) -> has.of(x, 3, q));
        both(BY_TYPES[5], "hasTrait", has, 5, 3);
        Two without = (x, g, q) -> x.errorsWithout(g, q);
        inAndOut(55, "`gate`: index of a gate", "if the gate or the question does not exist", "errorsWithout",
            BY_GATES, (x, g) -> without.of(x, g, 0));
        inAndOut(55, "`question`: index of the question that may not be asked",
            "if the gate or the question does not exist", "errorsWithout", BY_QUESTIONS, (x, q) -> without.of(x, 1, q));
        both(BY_GATES[3], "errorsWithout", without, 3, 3);
    }

    // ---- the same for every call

    private static void gate(int promise, String call, One one) {
        inAndOut(promise, "`gate`: index of a gate", "if the gate does not exist", call, BY_GATES, one);
    }

    private static void type(int promise, String call, One one) {
        inAndOut(promise, "`type`: index of a cart type", "if the cart type does not exist", call, BY_TYPES, one);
    }

    private static void question(int promise, String call, One one) {
        inAndOut(promise, "`question`: index of a question", "if the question does not exist", call, BY_QUESTIONS, one);
    }

    private static void gateAndType(int promise, String call, Two two) {
        String refused = "if the gate or the cart type does not exist";
        inAndOut(promise, "`gate`: index of a gate", refused, call, BY_GATES, (x, g) -> two.of(x, g, 4));
        inAndOut(promise, "`type`: index of a cart type", refused, call, BY_TYPES, (x, t) -> two.of(x, 1, t));
        both(BY_GATES[2], call, two, 2, 5);
    }

    /** A tree of so many types, each apart from the others, has 1, 3, .. 15 nodes. */
    private static void node(int promise, String call, Two two) {
        String refused = "if the gate or the node does not exist";
        inAndOut(promise, "`gate`: index of a gate", refused, call, BY_GATES, (x, g) -> two.of(x, g, 8));
        for (int types = 1; types <= TYPES; types++) {
            int nodes = 2 * types - 1;
            Start start = BY_TYPES[types];
            Doc.about(promise, "`node`: index of a node, in preorder");
            start.answers("nodeCount", nodes, x -> x.nodeCount(1));
            start.takes(call + " 0 of " + nodes, x -> two.of(x, 1, 0));
            start.takes(call + " of the last of " + nodes, x -> two.of(x, 1, nodes - 1));
            Doc.about(promise, "Throws `IndexOutOfBoundsException` " + refused);
            for (int node : new int[] {-1, nodes, 15, 16, MIN, MAX}) {
                start.refuses(call + " " + node + " of " + nodes, OUTSIDE, x -> two.of(x, 1, node));
            }
        }
        both(BY_GATES[2], call, two, 2, 9);
        smallerTree(promise, refused, call, two);
    }

    /** The nodes of the tree before are nodes no more. */
    private static void smallerTree(int promise, String refused, String call, Two two) {
        Doc.about(promise, "Throws `IndexOutOfBoundsException` " + refused);
        Start pruned = Start.loaded(Texts.setup(3, 8, 2)).then(x -> {
            x.setCostLimit(0, 1);
            x.buildTree(0);
        });
        pruned.takes(call + " 2 of 3", x -> two.of(x, 0, 2));
        pruned.refuses(call + " 3 of 3", OUTSIDE, x -> two.of(x, 0, 3));
        pruned.takes(call + " 14 of 15", x -> two.of(x, 1, 14));
        pruned.then(x -> x.undo()).takes(call + " 14 of 15 again", x -> two.of(x, 0, 14));
    }

    private static void inAndOut(int promise, String parameter, String refused, String call, Start[] bySize, One one) {
        for (int size = 1; size < bySize.length; size++) {
            int last = size - 1;
            Doc.about(promise, parameter);
            bySize[size].takes(call + " 0 of " + size, x -> one.of(x, 0));
            bySize[size].takes(call + " " + last + " of " + size, x -> one.of(x, last));
            Doc.about(promise, "Throws `IndexOutOfBoundsException` " + refused);
            for (int index : new int[] {-1, size, bySize.length - 1, MIN, MAX}) {
                bySize[size].refuses(call + " " + index + " of " + size, OUTSIDE, x -> one.of(x, index));
            }
        }
    }

    /** Both indexes outside, and each of them in the place of the other. */
    private static void both(Start start, String call, Two two, int firstSize, int secondSize) {
        for (int first : new int[] {-1, firstSize, MIN, MAX}) {
            for (int second : new int[] {-1, secondSize, MIN, MAX}) {
                start.answers(call + " " + first + " " + second, OUTSIDE, x -> two.of(x, first, second));
            }
        }
        int more = Math.max(firstSize, secondSize) - 1;
        if (firstSize < secondSize) {
            start.refuses(call + " " + more + " 0", OUTSIDE, x -> two.of(x, more, 0));
            start.takes(call + " 0 " + more, x -> two.of(x, 0, more));
        } else if (secondSize < firstSize) {
            start.refuses(call + " 0 " + more, OUTSIDE, x -> two.of(x, 0, more));
            start.takes(call + " " + more + " 0", x -> two.of(x, more, 0));
        }
    }
}
