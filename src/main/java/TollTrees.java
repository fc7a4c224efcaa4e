import java.util.Arrays;

/** Optimal binary decision trees for a toll tariff, with misclassification counts and question costs. */
public final class TollTrees {
    public static final int NONE = -1;

    private static final int MAX_QUESTIONS = 6;
    private static final int MAX_TYPES = 8;
    private static final int MAX_GATES = 4;
    private static final int MAX_NAME = 6;
    private static final int MAX_QUESTION_COST = 9;
    private static final int MAX_TOLL = 99;
    private static final int MAX_COUNT = 9999;
    private static final int MAX_LIMIT = 30;
    private static final int MAX_CLOCK = 9999;
    private static final int HOURS_OF_DAY = 24;
    private static final int MAX_PASSING = 999;
    private static final int MAX_ADVANCE = 100;
    private static final int MAX_INPUT = 700;
    private static final int INTS_OF_APPEND = 5;
    private static final int BYTES_OF_INT = 4;
    private static final int MAX_UNDO = 8;
    private static final int SLOTS = 2;

    /** Every leaf holds a type, so there are at most MAX_TYPES leaves and one inner node less. */
    private static final int MAX_NODES = 2 * MAX_TYPES - 1;
    private static final int SETS = 1 << MAX_TYPES;
    private static final int LIMITS = MAX_LIMIT + 1;
    /** One bit for each of the limits 0 to MAX_LIMIT. */
    private static final int ALL_LIMITS = (1 << LIMITS) - 1;

    /** An inner node is written with its name and three signs, a leaf with a sign and two digits. */
    private static final int MAX_OUTPUT = (MAX_TYPES - 1) * (MAX_NAME + 3) + MAX_TYPES * 3;

    private static final int SYNTAX = 1;
    private static final int OUT_OF_RANGE = 2;
    private static final int UNKNOWN = 3;
    private static final int DUPLICATE = 4;
    private static final int TOO_MANY = 5;
    private static final int NOT_POSSIBLE = 6;

    private static final String FIRST_SETUP =
        "tolls; ask wheels 1; ask load 2; ask beast 1; cart barrow 2; cart dray 5 wheels load; cart coach 7 wheels beast; cart wagon 9 wheels load beast; cart mule 3 beast; gate north 6 20 9 40 25 10 15 10; gate south 0 23 2 5 50 5 30 10;";

    private final Solver solver;
    private final Station present;
    private final Station draft;
    private final Reader reader;
    private final History history;
    private final Station[] savedStates;
    private final boolean[] slotUsed;
    private final Output output;

    public TollTrees() {
        solver = new Solver();
        present = new Station();
        draft = new Station();
        reader = new Reader(draft, solver);
        history = new History();
        savedStates = new Station[SLOTS];
        for (int slot = 0; slot < SLOTS; slot++) {
            savedStates[slot] = new Station();
        }
        slotUsed = new boolean[SLOTS];
        output = new Output();
        for (int i = 0; i < FIRST_SETUP.length(); i++) {
            reader.putByte(FIRST_SETUP.charAt(i));
        }
        reader.begin();
        reader.readSetup();
        reader.length = 0;
        present.copyFrom(draft);
    }

    // ---- input

    public int append(int a, int b, int c, int d, int e) {
        if (reader.length + INTS_OF_APPEND * BYTES_OF_INT > MAX_INPUT) {
            return NONE;
        }
        reader.putInt(a);
        reader.putInt(b);
        reader.putInt(c);
        reader.putInt(d);
        reader.putInt(e);
        return reader.length;
    }

    public int truncateInput(int length) throws IllegalArgumentException {
        requireRange(length, 0, reader.length);
        reader.length = length;
        return length;
    }

    public int load() {
        draft.empty();
        reader.begin();
        boolean fine = reader.readSetup() && reader.readCommands();
        reader.length = 0;
        if (!fine) {
            return NONE;
        }
        acceptDraft();
        return present.typeCount;
    }

    public int play() {
        draft.copyFrom(present);
        reader.begin();
        boolean fine = reader.readCommands();
        reader.length = 0;
        if (!fine) {
            return NONE;
        }
        acceptDraft();
        return reader.commands;
    }

    public int errorCode() {
        return reader.errorCode;
    }

    public int errorOffset() {
        return reader.errorOffset;
    }

    // ---- changes

    public int passCarts(int gate, int type, int number)
            throws IndexOutOfBoundsException, IllegalArgumentException, IllegalStateException {
        requireGate(gate);
        requireType(type);
        requireRange(number, 1, MAX_PASSING);
        if (!present.gates[gate].opensAt(present.hourOfDay())) {
            throw new IllegalStateException();
        }
        history.remember(present);
        return present.letPass(gate, type, number);
    }

    public int buildTree(int gate) throws IndexOutOfBoundsException {
        requireGate(gate);
        history.remember(present);
        solver.plant(present, present.gates[gate]);
        return present.gates[gate].tree.size;
    }

    public int halveCounts(int gate) throws IndexOutOfBoundsException {
        requireGate(gate);
        history.remember(present);
        present.gates[gate].halve();
        return present.gates[gate].weight(present.allTypes());
    }

    public int setToll(int type, int toll) throws IndexOutOfBoundsException, IllegalArgumentException {
        requireType(type);
        requireRange(toll, 0, MAX_TOLL);
        history.remember(present);
        int previous = present.tolls[type];
        present.tolls[type] = toll;
        return previous;
    }

    public int setCostLimit(int gate, int limit) throws IndexOutOfBoundsException, IllegalArgumentException {
        requireGate(gate);
        requireRange(limit, 0, MAX_LIMIT);
        history.remember(present);
        int previous = present.gates[gate].limit;
        present.gates[gate].limit = limit;
        return previous;
    }

    public int advanceClock(int hours) throws IllegalArgumentException, IllegalStateException {
        requireRange(hours, 1, MAX_ADVANCE);
        if (present.hours + hours > MAX_CLOCK) {
            throw new IllegalStateException();
        }
        history.remember(present);
        present.hours += hours;
        return present.openGates();
    }

    public int undo() throws IllegalStateException {
        if (history.size == 0) {
            throw new IllegalStateException();
        }
        history.recallInto(present);
        return history.size;
    }

    public int save(int slot) throws IllegalArgumentException {
        requireRange(slot, 0, SLOTS - 1);
        savedStates[slot].copyFrom(present);
        slotUsed[slot] = true;
        return present.hours;
    }

    public int restore(int slot) throws IllegalArgumentException, IllegalStateException {
        requireRange(slot, 0, SLOTS - 1);
        if (!slotUsed[slot]) {
            throw new IllegalStateException();
        }
        history.remember(present);
        present.copyFrom(savedStates[slot]);
        return present.hours;
    }

    // ---- questions, cart types and gates

    public int questionCount() {
        return present.questionCount;
    }

    public int typeCount() {
        return present.typeCount;
    }

    public int gateCount() {
        return present.gateCount;
    }

    public int clock() {
        return present.hours;
    }

    public int undoableChanges() {
        return history.size;
    }

    public int questionCost(int question) throws IndexOutOfBoundsException {
        requireQuestion(question);
        return present.questionCosts[question];
    }

    public boolean hasTrait(int type, int question) throws IndexOutOfBoundsException {
        requireType(type);
        requireQuestion(question);
        return holds(present.yesTypes[question], type);
    }

    public int toll(int type) throws IndexOutOfBoundsException {
        requireType(type);
        return present.tolls[type];
    }

    public int countAt(int gate, int type) throws IndexOutOfBoundsException {
        requireGate(gate);
        requireType(type);
        return present.gates[gate].counts[type];
    }

    public int costLimit(int gate) throws IndexOutOfBoundsException {
        requireGate(gate);
        return present.gates[gate].limit;
    }

    public boolean isOpen(int gate) throws IndexOutOfBoundsException {
        requireGate(gate);
        return present.gates[gate].opensAt(present.hourOfDay());
    }

    public int hoursUntilOpen(int gate) throws IndexOutOfBoundsException {
        requireGate(gate);
        return present.gates[gate].waitFrom(present.hourOfDay());
    }

    public int questionNameByte(int question, int index) throws IndexOutOfBoundsException {
        requireQuestion(question);
        return byteOfName(present.questionNames[question], index);
    }

    public int typeNameByte(int type, int index) throws IndexOutOfBoundsException {
        requireType(type);
        return byteOfName(present.typeNames[type], index);
    }

    public int gateNameByte(int gate, int index) throws IndexOutOfBoundsException {
        requireGate(gate);
        return byteOfName(present.gates[gate].name, index);
    }

    // ---- totals since the latest load

    public int cartsPassed() {
        return present.totals.carts;
    }

    public int costAsked() {
        return present.totals.cost;
    }

    public int tollsPaid() {
        return present.totals.paid;
    }

    public int tollsDue() {
        return present.totals.due;
    }

    public int cartsOvercharged() {
        return present.totals.overchargedCarts;
    }

    public int cartsUndercharged() {
        return present.totals.underchargedCarts;
    }

    public int overcharge() {
        return present.totals.excess;
    }

    public int undercharge() {
        return present.totals.shortage;
    }

    // ---- the present tree of a gate

    public int nodeCount(int gate) throws IndexOutOfBoundsException {
        requireGate(gate);
        return present.gates[gate].tree.size;
    }

    public int nodeQuestion(int gate, int node) throws IndexOutOfBoundsException {
        requireNode(gate, node);
        return present.gates[gate].tree.questions[node];
    }

    public int leafToll(int gate, int node) throws IndexOutOfBoundsException {
        requireNode(gate, node);
        return present.gates[gate].tree.tolls[node];
    }

    public int yesChild(int gate, int node) throws IndexOutOfBoundsException {
        requireNode(gate, node);
        return present.gates[gate].tree.firstChild(node);
    }

    public int noChild(int gate, int node) throws IndexOutOfBoundsException {
        requireNode(gate, node);
        return present.gates[gate].tree.noChildren[node];
    }

    public int typesAt(int gate, int node) throws IndexOutOfBoundsException {
        requireNode(gate, node);
        return present.gates[gate].tree.types[node];
    }

    public int leafOf(int gate, int type) throws IndexOutOfBoundsException {
        requireGate(gate);
        requireType(type);
        return present.gates[gate].tree.leafHolding(type);
    }

    public int chargedToll(int gate, int type) throws IndexOutOfBoundsException {
        requireGate(gate);
        requireType(type);
        return present.gates[gate].tree.tollFor(type);
    }

    public int pathCost(int gate, int type) throws IndexOutOfBoundsException {
        requireGate(gate);
        requireType(type);
        return present.costOfPath(gate, type);
    }

    public int errors(int gate) throws IndexOutOfBoundsException {
        requireGate(gate);
        return present.errorsNow(gate);
    }

    public int work(int gate) throws IndexOutOfBoundsException {
        requireGate(gate);
        return present.workNow(gate);
    }

    public int mischargeReason(int gate, int type) throws IndexOutOfBoundsException {
        requireGate(gate);
        requireType(type);
        Tree tree = present.gates[gate].tree;
        int paid = tree.tollFor(type);
        if (paid == present.tolls[type]) {
            return 0;
        }
        if (present.hasTwinWithToll(type, paid)) {
            return 1;
        }
        return present.isSplittable(tree.types[tree.leafHolding(type)]) ? 2 : 3;
    }

    // ---- the best tree, without building it

    public int bestErrors(int gate, int limit) throws IndexOutOfBoundsException, IllegalArgumentException {
        return errorsOf(bestRank(gate, limit));
    }

    public int bestWork(int gate, int limit) throws IndexOutOfBoundsException, IllegalArgumentException {
        return workOf(bestRank(gate, limit));
    }

    public int bestRootQuestion(int gate, int limit) throws IndexOutOfBoundsException, IllegalArgumentException {
        return rootOf(bestRank(gate, limit));
    }

    public int errorsWithout(int gate, int question) throws IndexOutOfBoundsException {
        requireGate(gate);
        requireQuestion(question);
        int limit = present.gates[gate].limit;
        solver.solve(present, present.gates[gate], 1 << limit, question);
        return errorsOf(solver.rankOf(present.allTypes(), limit));
    }

    public int sufficientLimit(int gate) throws IndexOutOfBoundsException {
        requireGate(gate);
        solver.solve(present, present.gates[gate], ALL_LIMITS, NONE);
        int all = present.allTypes();
        int fewest = errorsOf(solver.rankOf(all, MAX_LIMIT));
        for (int limit = 0; limit < MAX_LIMIT; limit++) {
            if (errorsOf(solver.rankOf(all, limit)) == fewest) {
                return limit;
            }
        }
        return MAX_LIMIT;
    }

    public int stalestGate() {
        int stalest = NONE;
        int errorsGained = 0;
        int workGained = 0;
        for (int gate = 0; gate < present.gateCount; gate++) {
            long best = bestRank(gate, present.gates[gate].limit);
            int fewerErrors = present.errorsNow(gate) - errorsOf(best);
            int lessWork = present.workNow(gate) - workOf(best);
            if (fewerErrors > errorsGained || fewerErrors == errorsGained && lessWork > workGained) {
                stalest = gate;
                errorsGained = fewerErrors;
                workGained = lessWork;
            }
        }
        return stalest;
    }

    public int quickestGate(int type) throws IndexOutOfBoundsException {
        requireType(type);
        int quickest = NONE;
        int leastCost = 0;
        int leastToll = 0;
        for (int gate = 0; gate < present.gateCount; gate++) {
            if (!present.gates[gate].opensAt(present.hourOfDay())) {
                continue;
            }
            int cost = present.costOfPath(gate, type);
            int paid = present.gates[gate].tree.tollFor(type);
            if (quickest == NONE || cost < leastCost || cost == leastCost && paid < leastToll) {
                quickest = gate;
                leastCost = cost;
                leastToll = paid;
            }
        }
        return quickest;
    }

    // ---- consistency and averages

    public int inconsistencies() {
        Totals totals = present.totals;
        int sum = Math.abs(totals.paid - totals.due - totals.excess + totals.shortage);
        for (int gate = 0; gate < present.gateCount; gate++) {
            sum += Math.abs(present.workNow(gate) - present.workByTypes(gate));
            sum += present.gates[gate].tree.emptyLeaves();
        }
        return sum;
    }

    public double meanPathCost(int gate) throws IndexOutOfBoundsException {
        requireGate(gate);
        int carts = present.gates[gate].weight(present.allTypes());
        if (carts == 0) {
            return 0.0;
        }
        return (double) present.workNow(gate) / (double) carts;
    }

    public float correctShare() {
        Totals totals = present.totals;
        if (totals.carts == 0) {
            return 1.0f;
        }
        int correct = totals.carts - totals.overchargedCarts - totals.underchargedCarts;
        return (float) correct / (float) totals.carts;
    }

    // ---- output

    public int writeTree(int gate) throws IndexOutOfBoundsException {
        requireGate(gate);
        output.writeTreeOf(present, present.gates[gate].tree);
        return output.length;
    }

    public int outputByte(int index) {
        if (index < 0 || index >= output.length) {
            return NONE;
        }
        return output.bytes[index];
    }

    // ---- what several calls share

    private void acceptDraft() {
        history.remember(present);
        present.copyFrom(draft);
    }

    private long bestRank(int gate, int limit) {
        requireGate(gate);
        requireRange(limit, 0, MAX_LIMIT);
        solver.solve(present, present.gates[gate], 1 << limit, NONE);
        return solver.rankOf(present.allTypes(), limit);
    }

    private void requireQuestion(int question) {
        if (question < 0 || question >= present.questionCount) {
            throw new IndexOutOfBoundsException();
        }
    }

    private void requireType(int type) {
        if (type < 0 || type >= present.typeCount) {
            throw new IndexOutOfBoundsException();
        }
    }

    private void requireGate(int gate) {
        if (gate < 0 || gate >= present.gateCount) {
            throw new IndexOutOfBoundsException();
        }
    }

    private void requireNode(int gate, int node) {
        requireGate(gate);
        if (node < 0 || node >= present.gates[gate].tree.size) {
            throw new IndexOutOfBoundsException();
        }
    }

    private static void requireRange(int value, int least, int greatest) {
        if (value < least || value > greatest) {
            throw new IllegalArgumentException();
        }
    }

    private static boolean holds(int set, int type) {
        return (set >> type & 1) != 0;
    }

    /** A name is held in one number, its first letter in the lowest eight bits. */
    private static int byteOfName(long name, int index) {
        if (index < 0 || index >= MAX_NAME) {
            return NONE;
        }
        int letter = (int) (name >> 8 * index) & 255;
        return letter == 0 ? NONE : letter;
    }

    // ---- ranks
    //
    // The rank of a tree is one number, so that the better of two trees is the one with the lesser rank:
    // first the errors, then 22 bits of work (at most 8 * 9999 * 30), then 3 bits that are 0 for a leaf and
    // otherwise the root's question + 1. Without those 3 bits it is the score; scores of children add up.

    private static final int WORK_BITS = 22;
    private static final int ROOT_BITS = 3;

    private static int errorsOf(long rank) {
        return (int) (rank >> WORK_BITS + ROOT_BITS);
    }

    private static int workOf(long rank) {
        return (int) (rank >> ROOT_BITS) & (1 << WORK_BITS) - 1;
    }

    private static int rootOf(long rank) {
        return ((int) rank & (1 << ROOT_BITS) - 1) - 1;
    }

    /** All that undo and restore bring back. */
    private static final class Station {
        int questionCount;
        int typeCount;
        int gateCount;
        int hours;
        final long[] questionNames = new long[MAX_QUESTIONS];
        final int[] questionCosts = new int[MAX_QUESTIONS];
        /** For each question the set of the types that answer yes. */
        final int[] yesTypes = new int[MAX_QUESTIONS];
        final long[] typeNames = new long[MAX_TYPES];
        final int[] tolls = new int[MAX_TYPES];
        final Gate[] gates = new Gate[MAX_GATES];
        final Totals totals = new Totals();

        Station() {
            for (int gate = 0; gate < MAX_GATES; gate++) {
                gates[gate] = new Gate();
            }
        }

        void empty() {
            questionCount = 0;
            typeCount = 0;
            gateCount = 0;
            hours = 0;
            totals.reset();
        }

        void copyFrom(Station other) {
            questionCount = other.questionCount;
            typeCount = other.typeCount;
            gateCount = other.gateCount;
            hours = other.hours;
            System.arraycopy(other.questionNames, 0, questionNames, 0, MAX_QUESTIONS);
            System.arraycopy(other.questionCosts, 0, questionCosts, 0, MAX_QUESTIONS);
            System.arraycopy(other.yesTypes, 0, yesTypes, 0, MAX_QUESTIONS);
            System.arraycopy(other.typeNames, 0, typeNames, 0, MAX_TYPES);
            System.arraycopy(other.tolls, 0, tolls, 0, MAX_TYPES);
            for (int gate = 0; gate < other.gateCount; gate++) {
                gates[gate].copyFrom(other.gates[gate]);
            }
            totals.copyFrom(other.totals);
        }

        int allTypes() {
            return (1 << typeCount) - 1;
        }

        int hourOfDay() {
            return hours % HOURS_OF_DAY;
        }

        int openGates() {
            int open = 0;
            for (int gate = 0; gate < gateCount; gate++) {
                if (gates[gate].opensAt(hourOfDay())) {
                    open++;
                }
            }
            return open;
        }

        int questionNamed(long name) {
            return indexOfName(questionNames, questionCount, name);
        }

        int typeNamed(long name) {
            return indexOfName(typeNames, typeCount, name);
        }

        int gateNamed(long name) {
            for (int gate = 0; gate < gateCount; gate++) {
                if (gates[gate].name == name) {
                    return gate;
                }
            }
            return NONE;
        }

        private static int indexOfName(long[] names, int count, long name) {
            for (int i = 0; i < count && i < names.length; i++) {
                if (names[i] == name) {
                    return i;
                }
            }
            return NONE;
        }

        /** Returns the toll that each of the carts pays. */
        int letPass(int gate, int type, int number) {
            int paid = gates[gate].tree.tollFor(type);
            totals.add(number, costOfPath(gate, type), paid, tolls[type]);
            gates[gate].addCarts(type, number);
            return paid;
        }

        int costOfPath(int gate, int type) {
            Tree tree = gates[gate].tree;
            int cost = 0;
            for (int node = 0; node < tree.size; node++) {
                if (tree.questions[node] != NONE && holds(tree.types[node], type)) {
                    cost += questionCosts[tree.questions[node]];
                }
            }
            return cost;
        }

        int errorsNow(int gate) {
            int sum = 0;
            for (int type = 0; type < typeCount; type++) {
                if (gates[gate].tree.tollFor(type) != tolls[type]) {
                    sum += gates[gate].counts[type];
                }
            }
            return sum;
        }

        int workNow(int gate) {
            Tree tree = gates[gate].tree;
            int sum = 0;
            for (int node = 0; node < tree.size; node++) {
                if (tree.questions[node] != NONE) {
                    sum += questionCosts[tree.questions[node]] * gates[gate].weight(tree.types[node]);
                }
            }
            return sum;
        }

        int workByTypes(int gate) {
            int sum = 0;
            for (int type = 0; type < typeCount; type++) {
                sum += gates[gate].counts[type] * costOfPath(gate, type);
            }
            return sum;
        }

        boolean isSplittable(int set) {
            for (int question = 0; question < questionCount; question++) {
                if ((set & yesTypes[question]) != 0 && (set & ~yesTypes[question]) != 0) {
                    return true;
                }
            }
            return false;
        }

        boolean hasTwinWithToll(int type, int toll) {
            for (int other = 0; other < typeCount; other++) {
                if (other != type && tolls[other] == toll && !isSplittable(1 << type | 1 << other)) {
                    return true;
                }
            }
            return false;
        }
    }

    private static final class Gate {
        long name;
        int opening;
        int closing;
        int limit;
        final int[] counts = new int[MAX_TYPES];
        final Tree tree = new Tree();

        void copyFrom(Gate other) {
            name = other.name;
            opening = other.opening;
            closing = other.closing;
            limit = other.limit;
            System.arraycopy(other.counts, 0, counts, 0, MAX_TYPES);
            tree.copyFrom(other.tree);
        }

        boolean opensAt(int hour) {
            if (opening <= closing) {
                return opening <= hour && hour <= closing;
            }
            return opening <= hour || hour <= closing;
        }

        int waitFrom(int hour) {
            if (opensAt(hour)) {
                return 0;
            }
            return (opening - hour + HOURS_OF_DAY) % HOURS_OF_DAY;
        }

        int weight(int set) {
            int sum = 0;
            for (int type = 0; type < MAX_TYPES; type++) {
                if (holds(set, type)) {
                    sum += counts[type];
                }
            }
            return sum;
        }

        void addCarts(int type, int number) {
            counts[type] = Math.min(MAX_COUNT, counts[type] + number);
        }

        void halve() {
            for (int type = 0; type < MAX_TYPES; type++) {
                counts[type] /= 2;
            }
        }
    }

    /** The nodes of a tree in preorder. */
    private static final class Tree {
        int size;
        final int[] questions = new int[MAX_NODES];
        final int[] tolls = new int[MAX_NODES];
        final int[] noChildren = new int[MAX_NODES];
        final int[] types = new int[MAX_NODES];

        void copyFrom(Tree other) {
            size = other.size;
            System.arraycopy(other.questions, 0, questions, 0, MAX_NODES);
            System.arraycopy(other.tolls, 0, tolls, 0, MAX_NODES);
            System.arraycopy(other.noChildren, 0, noChildren, 0, MAX_NODES);
            System.arraycopy(other.types, 0, types, 0, MAX_NODES);
        }

        /** In preorder the yes child stands right behind its parent. */
        int firstChild(int node) {
            return questions[node] == NONE ? NONE : node + 1;
        }

        int leafHolding(int type) {
            for (int node = 0; node < size; node++) {
                if (questions[node] == NONE && (types[node] >> type & 1) != 0) {
                    return node;
                }
            }
            return 0;
        }

        int tollFor(int type) {
            return tolls[leafHolding(type)];
        }

        int emptyLeaves() {
            int empty = 0;
            for (int node = 0; node < size; node++) {
                if (questions[node] == NONE && types[node] == 0) {
                    empty++;
                }
            }
            return empty;
        }
    }

    /** What the carts were asked, what they paid and what was due since the latest load. */
    private static final class Totals {
        int carts;
        int cost;
        int paid;
        int due;
        int overchargedCarts;
        int underchargedCarts;
        int excess;
        int shortage;

        void reset() {
            carts = 0;
            cost = 0;
            paid = 0;
            due = 0;
            overchargedCarts = 0;
            underchargedCarts = 0;
            excess = 0;
            shortage = 0;
        }

        void copyFrom(Totals other) {
            carts = other.carts;
            cost = other.cost;
            paid = other.paid;
            due = other.due;
            overchargedCarts = other.overchargedCarts;
            underchargedCarts = other.underchargedCarts;
            excess = other.excess;
            shortage = other.shortage;
        }

        void add(int number, int costEach, int paidEach, int dueEach) {
            carts += number;
            cost += number * costEach;
            paid += number * paidEach;
            due += number * dueEach;
            if (paidEach > dueEach) {
                overchargedCarts += number;
                excess += number * (paidEach - dueEach);
            }
            if (paidEach < dueEach) {
                underchargedCarts += number;
                shortage += number * (dueEach - paidEach);
            }
        }
    }

    /** The states before the latest changes, in a ring. */
    private static final class History {
        final Station[] states = new Station[MAX_UNDO];
        int oldest;
        int size;

        History() {
            for (int i = 0; i < MAX_UNDO; i++) {
                states[i] = new Station();
            }
        }

        void remember(Station station) {
            if (size == MAX_UNDO) {
                oldest = (oldest + 1) % MAX_UNDO;
                size--;
            }
            states[(oldest + size) % MAX_UNDO].copyFrom(station);
            size++;
        }

        void recallInto(Station station) {
            if (size > 0) {
                size--;
                station.copyFrom(states[(oldest + size) % MAX_UNDO]);
            }
        }
    }

    /** Finds best trees, set by set; a subset has a lesser number than the set, so it is ranked before. */
    private static final class Solver {
        final long[] ranks = new long[SETS * LIMITS];
        /** For each set the limits, a bit each, for which its best tree is needed. */
        final int[] limitsNeeded = new int[SETS];
        final int[] weights = new int[SETS];
        /** For each type the types with the same toll. */
        final int[] sameToll = new int[MAX_TYPES];
        final int[] waitingSets = new int[MAX_NODES];
        final int[] waitingLimits = new int[MAX_NODES];
        final int[] waitingParents = new int[MAX_NODES];
        int waiting;

        /** Ranks the best tree of all types for each limit whose bit is set; a forbidden question is not asked. */
        void solve(Station station, Gate gate, int limits, int forbidden) {
            int all = station.allTypes();
            weighSets(gate, station.typeCount);
            groupTolls(station);
            Arrays.fill(limitsNeeded, 0);
            limitsNeeded[all] = limits;
            for (int set = all; set > 0; set--) {
                needChildren(station, set, forbidden);
            }
            for (int set = 1; set <= all; set++) {
                if (limitsNeeded[set] != 0) {
                    rankSet(station, set, fewestLeafErrors(station, set), forbidden);
                }
            }
        }

        long rankOf(int set, int limit) {
            return ranks[set * LIMITS + limit];
        }

        /** Makes the tree of a gate the best one. */
        void plant(Station station, Gate gate) {
            solve(station, gate, 1 << gate.limit, NONE);
            Tree tree = gate.tree;
            tree.size = 0;
            waiting = 0;
            await(station.allTypes(), gate.limit, NONE);
            for (int node = 0; node < MAX_NODES && waiting > 0; node++) {
                plantNode(station, tree, node);
            }
        }

        private void plantNode(Station station, Tree tree, int node) {
            waiting--;
            int set = waitingSets[waiting];
            int limit = waitingLimits[waiting];
            if (waitingParents[waiting] != NONE) {
                tree.noChildren[waitingParents[waiting]] = node;
            }
            int question = rootOf(rankOf(set, limit));
            tree.questions[node] = question;
            tree.noChildren[node] = NONE;
            tree.types[node] = set;
            tree.size = node + 1;
            if (question == NONE) {
                tree.tolls[node] = bestToll(station, set);
                return;
            }
            tree.tolls[node] = NONE;
            int rest = limit - station.questionCosts[question];
            await(set & ~station.yesTypes[question], rest, node);
            await(set & station.yesTypes[question], rest, NONE);
        }

        /** The latest one that waits is planted first. Only a no child names its parent. */
        private void await(int set, int limit, int parent) {
            if (waiting < MAX_NODES) {
                waitingSets[waiting] = set;
                waitingLimits[waiting] = limit;
                waitingParents[waiting] = parent;
                waiting++;
            }
        }

        private void weighSets(Gate gate, int typeCount) {
            weights[0] = 0;
            for (int type = 0; type < typeCount; type++) {
                for (int set = 0; set < 1 << type; set++) {
                    weights[set | 1 << type] = weights[set] + gate.counts[type];
                }
            }
        }

        private void groupTolls(Station station) {
            for (int type = 0; type < station.typeCount; type++) {
                sameToll[type] = 0;
                for (int other = 0; other < station.typeCount; other++) {
                    if (station.tolls[other] == station.tolls[type]) {
                        sameToll[type] |= 1 << other;
                    }
                }
            }
        }

        private void needChildren(Station station, int set, int forbidden) {
            if (limitsNeeded[set] == 0) {
                return;
            }
            for (int question = 0; question < station.questionCount; question++) {
                int yes = set & station.yesTypes[question];
                int no = set & ~station.yesTypes[question];
                if (question != forbidden && yes != 0 && no != 0) {
                    int limitsLeft = limitsNeeded[set] >> station.questionCosts[question];
                    limitsNeeded[yes] |= limitsLeft;
                    limitsNeeded[no] |= limitsLeft;
                }
            }
        }

        private int fewestLeafErrors(Station station, int set) {
            int greatest = 0;
            for (int type = 0; type < station.typeCount; type++) {
                greatest = Math.max(greatest, weights[set & sameToll[type]]);
            }
            return weights[set] - greatest;
        }

        private void rankSet(Station station, int set, int leafErrors, int forbidden) {
            for (int limit = 0; limit <= MAX_LIMIT; limit++) {
                if ((limitsNeeded[set] >> limit & 1) == 0) {
                    continue;
                }
                long best = (long) leafErrors << WORK_BITS + ROOT_BITS;
                for (int question = 0; question < station.questionCount; question++) {
                    int yes = set & station.yesTypes[question];
                    int no = set & ~station.yesTypes[question];
                    int rest = limit - station.questionCosts[question];
                    if (question != forbidden && yes != 0 && no != 0 && rest >= 0) {
                        long score = (ranks[yes * LIMITS + rest] >> ROOT_BITS)
                            + (ranks[no * LIMITS + rest] >> ROOT_BITS)
                            + station.questionCosts[question] * weights[set];
                        best = Math.min(best, score << ROOT_BITS | question + 1);
                    }
                }
                ranks[set * LIMITS + limit] = best;
            }
        }

        private int bestToll(Station station, int set) {
            int toll = NONE;
            int weight = 0;
            for (int type = 0; type < station.typeCount; type++) {
                int bearers = set & sameToll[type];
                boolean lower = weights[bearers] == weight && station.tolls[type] < toll;
                if (bearers != 0 && (toll == NONE || weights[bearers] > weight || lower)) {
                    toll = station.tolls[type];
                    weight = weights[bearers];
                }
            }
            return toll;
        }
    }

    /** The input buffer, its tokens, and the grammar over them. A reading method that fails has noted the error. */
    private static final class Reader {
        static final int WORD = 0;
        static final int NUMBER = 1;
        static final int SEMICOLON = 2;
        static final int END = 3;
        static final int NO_TOKEN = 4;
        /** A number is not counted further from here on: it is beyond every range. */
        static final int HUGE = 100000;

        final byte[] text = new byte[MAX_INPUT];
        int length;
        int errorCode;
        int errorOffset = NONE;
        int commands;
        private final Station station;
        private final Solver solver;
        /** The token that is looked at: its kind, its first byte, the byte behind it, and what it says. */
        private int kind;
        private int start;
        private int behind;
        private long name;
        private int number;

        Reader(Station station, Solver solver) {
            this.station = station;
            this.solver = solver;
        }

        void putByte(int value) {
            if (length < MAX_INPUT) {
                text[length] = (byte) value;
                length++;
            }
        }

        void putInt(int value) {
            for (int shift = 24; shift >= 0; shift -= 8) {
                putByte(value >> shift);
            }
        }

        // ---- tokens

        void begin() {
            errorCode = 0;
            errorOffset = NONE;
            commands = 0;
            behind = 0;
            advance();
        }

        private void advance() {
            start = behind;
            while (start < length && text[start] == ' ') {
                start++;
            }
            behind = start;
            if (start >= length) {
                kind = END;
                return;
            }
            kind = kindOf(text[start]);
            behind++;
            if (kind == WORD) {
                readLetters();
            } else if (kind == NUMBER) {
                readDigits();
            }
        }

        private static int kindOf(int sign) {
            if ('a' <= sign && sign <= 'z') {
                return WORD;
            }
            if ('0' <= sign && sign <= '9') {
                return NUMBER;
            }
            return sign == ';' ? SEMICOLON : NO_TOKEN;
        }

        private void readLetters() {
            name = 0;
            for (behind = start; behind < length && 'a' <= text[behind] && text[behind] <= 'z'; behind++) {
                if (behind - start < MAX_NAME) {
                    name |= (long) text[behind] << 8 * (behind - start);
                }
            }
        }

        private void readDigits() {
            number = 0;
            for (behind = start; behind < length && '0' <= text[behind] && text[behind] <= '9'; behind++) {
                if (number < HUGE) {
                    number = number * 10 + text[behind] - '0';
                }
            }
        }

        private boolean fail(int code) {
            errorCode = code;
            errorOffset = start;
            return false;
        }

        private boolean isWord(String word) {
            if (kind != WORD || behind - start != word.length()) {
                return false;
            }
            for (int i = 0; i < word.length(); i++) {
                if (text[start + i] != word.charAt(i)) {
                    return false;
                }
            }
            return true;
        }

        private boolean isName() {
            return kind == WORD && behind - start <= MAX_NAME;
        }

        private boolean takeWord(String word) {
            if (!isWord(word)) {
                return fail(SYNTAX);
            }
            advance();
            return true;
        }

        private boolean takeSemicolon() {
            if (kind != SEMICOLON) {
                return fail(SYNTAX);
            }
            advance();
            return true;
        }

        /** Tests the present token; the number stays to be read, and takeNumber goes on behind it. */
        private boolean isNumberIn(int least, int greatest) {
            if (kind != NUMBER) {
                return fail(SYNTAX);
            }
            return number >= least && number <= greatest || fail(OUT_OF_RANGE);
        }

        /** Returns the number, or NONE after an error. */
        private int takeNumber(int least, int greatest) {
            if (!isNumberIn(least, greatest)) {
                return NONE;
            }
            int taken = number;
            advance();
            return taken;
        }

        /** Tests the present token as the name of something new; known is the bearer of that name so far. */
        private boolean isNewName(int known) {
            if (!isName()) {
                return fail(SYNTAX);
            }
            return known == NONE || fail(DUPLICATE);
        }

        /** Tests the present token as the name of something that is there; known is the bearer of that name. */
        private boolean isKnownName(int known) {
            if (!isName()) {
                return fail(SYNTAX);
            }
            return known != NONE || fail(UNKNOWN);
        }

        /** Goes on behind a name and returns its bearer, or NONE after an error. */
        private int takeKnown(int known) {
            if (!isKnownName(known)) {
                return NONE;
            }
            advance();
            return known;
        }

        // ---- setup

        boolean readSetup() {
            return takeWord("tolls") && takeSemicolon() && readQuestions() && readCarts() && readGates();
        }

        private boolean readQuestions() {
            for (int question = 0; question < MAX_QUESTIONS; question++) {
                if (question > 0 && !isWord("ask")) {
                    return true;
                }
                if (!takeWord("ask") || !readQuestion(question)) {
                    return false;
                }
            }
            return !isWord("ask") || fail(TOO_MANY);
        }

        private boolean readQuestion(int question) {
            if (!isNewName(station.questionNamed(name))) {
                return false;
            }
            station.questionNames[question] = name;
            station.yesTypes[question] = 0;
            advance();
            station.questionCosts[question] = takeNumber(1, MAX_QUESTION_COST);
            station.questionCount = question + 1;
            return station.questionCosts[question] != NONE && takeSemicolon();
        }

        private boolean readCarts() {
            for (int type = 0; type < MAX_TYPES; type++) {
                if (type > 0 && !isWord("cart")) {
                    return true;
                }
                if (!takeWord("cart") || !readCart(type)) {
                    return false;
                }
            }
            return !isWord("cart") || fail(TOO_MANY);
        }

        private boolean readCart(int type) {
            if (!isNewName(station.typeNamed(name))) {
                return false;
            }
            station.typeNames[type] = name;
            advance();
            station.tolls[type] = takeNumber(0, MAX_TOLL);
            station.typeCount = type + 1;
            return station.tolls[type] != NONE && readTraits(type) && takeSemicolon();
        }

        private boolean readTraits(int type) {
            // One round more than there are questions, for the error of the name that is listed again.
            for (int i = 0; i <= MAX_QUESTIONS && kind != SEMICOLON; i++) {
                int question = station.questionNamed(name);
                if (!isKnownName(question)) {
                    return false;
                }
                if (holds(station.yesTypes[question], type)) {
                    return fail(DUPLICATE);
                }
                station.yesTypes[question] |= 1 << type;
                advance();
            }
            return true;
        }

        private boolean readGates() {
            for (int gate = 0; gate < MAX_GATES; gate++) {
                if (gate > 0 && !isWord("gate")) {
                    return true;
                }
                if (!takeWord("gate") || !readGate(gate) || !readCounts(station.gates[gate])) {
                    return false;
                }
                solver.plant(station, station.gates[gate]);
            }
            return !isWord("gate") || fail(TOO_MANY);
        }

        private boolean readGate(int index) {
            if (!isNewName(station.gateNamed(name))) {
                return false;
            }
            Gate gate = station.gates[index];
            gate.name = name;
            advance();
            gate.opening = takeNumber(0, HOURS_OF_DAY - 1);
            if (gate.opening == NONE) {
                return false;
            }
            gate.closing = takeNumber(0, HOURS_OF_DAY - 1);
            if (gate.closing == NONE) {
                return false;
            }
            gate.limit = takeNumber(0, MAX_LIMIT);
            station.gateCount = index + 1;
            return gate.limit != NONE;
        }

        private boolean readCounts(Gate gate) {
            for (int type = 0; type < station.typeCount; type++) {
                gate.counts[type] = takeNumber(0, MAX_COUNT);
                if (gate.counts[type] == NONE) {
                    return false;
                }
            }
            if (kind == NUMBER) {
                return isNumberIn(0, MAX_COUNT) && fail(TOO_MANY);
            }
            return takeSemicolon();
        }

        // ---- commands

        boolean readCommands() {
            for (int i = 0; i <= MAX_INPUT && kind != END; i++) {
                if (!readCommand() || !takeSemicolon()) {
                    return false;
                }
                commands++;
            }
            return true;
        }

        private boolean readCommand() {
            if (isWord("pass")) {
                return readPass();
            }
            if (isWord("build")) {
                return readBuild();
            }
            if (isWord("halve")) {
                return readHalve();
            }
            if (isWord("toll")) {
                return readToll();
            }
            if (isWord("limit")) {
                return readLimit();
            }
            if (isWord("hours")) {
                return readHours();
            }
            return fail(SYNTAX);
        }

        private boolean readPass() {
            advance();
            int gate = takeKnown(station.gateNamed(name));
            if (gate == NONE) {
                return false;
            }
            int type = takeKnown(station.typeNamed(name));
            if (type == NONE || !isNumberIn(1, MAX_PASSING)) {
                return false;
            }
            if (!station.gates[gate].opensAt(station.hourOfDay())) {
                return fail(NOT_POSSIBLE);
            }
            station.letPass(gate, type, number);
            advance();
            return true;
        }

        private boolean readBuild() {
            advance();
            int gate = takeKnown(station.gateNamed(name));
            if (gate == NONE) {
                return false;
            }
            solver.plant(station, station.gates[gate]);
            return true;
        }

        private boolean readHalve() {
            advance();
            int gate = takeKnown(station.gateNamed(name));
            if (gate == NONE) {
                return false;
            }
            station.gates[gate].halve();
            return true;
        }

        private boolean readToll() {
            advance();
            int type = takeKnown(station.typeNamed(name));
            if (type == NONE || !isNumberIn(0, MAX_TOLL)) {
                return false;
            }
            station.tolls[type] = number;
            advance();
            return true;
        }

        private boolean readLimit() {
            advance();
            int gate = takeKnown(station.gateNamed(name));
            if (gate == NONE || !isNumberIn(0, MAX_LIMIT)) {
                return false;
            }
            station.gates[gate].limit = number;
            advance();
            return true;
        }

        private boolean readHours() {
            advance();
            if (!isNumberIn(1, Math.min(MAX_ADVANCE, MAX_CLOCK - station.hours))) {
                return false;
            }
            station.hours += number;
            advance();
            return true;
        }
    }

    private static final class Output {
        private static final int COMMA = -2;
        private static final int CLOSING = -3;
        /** Each inner node takes one from the stack and puts four on it. */
        private static final int MAX_WAITING = 1 + 3 * (MAX_TYPES - 1);

        final byte[] bytes = new byte[MAX_OUTPUT];
        int length;
        /** A stack of what is still to be written: nodes and marks. */
        private final int[] waiting = new int[MAX_WAITING];
        private int waitingCount;

        void writeTreeOf(Station station, Tree tree) {
            length = 0;
            waitingCount = 0;
            await(0);
            for (int i = 0; i < MAX_OUTPUT && waitingCount > 0; i++) {
                waitingCount--;
                int next = waiting[waitingCount];
                if (next == COMMA) {
                    put(',');
                } else if (next == CLOSING) {
                    put(')');
                } else if (tree.questions[next] == NONE) {
                    putLeaf(tree.tolls[next]);
                } else {
                    putName(station.questionNames[tree.questions[next]]);
                    put('(');
                    await(CLOSING);
                    await(tree.noChildren[next]);
                    await(COMMA);
                    await(tree.firstChild(next));
                }
            }
        }

        private void await(int item) {
            if (waitingCount < MAX_WAITING) {
                waiting[waitingCount] = item;
                waitingCount++;
            }
        }

        private void put(int value) {
            if (length < MAX_OUTPUT) {
                bytes[length] = (byte) value;
                length++;
            }
        }

        private void putName(long name) {
            for (int i = 0; i < MAX_NAME && byteOfName(name, i) != NONE; i++) {
                put(byteOfName(name, i));
            }
        }

        private void putLeaf(int toll) {
            put('=');
            if (toll >= 10) {
                put('0' + toll / 10);
            }
            put('0' + toll % 10);
        }
    }
}
