import java.util.ArrayList;
import java.util.LinkedHashMap;
import java.util.LinkedHashSet;
import java.util.List;
import java.util.Map;
import java.util.Set;

/** The document once more, written plainly and by other means, for ModelTest to compare the class with. */
public final class Model {
    private static final class Wrong extends RuntimeException {
        private static final long serialVersionUID = 1;
        final int code;
        final int offset;

        Wrong(int code, int offset) {
            this.code = code;
            this.offset = offset;
        }
    }

    private static final class Question {
        final String name;
        final int cost;

        Question(String name, int cost) {
            this.name = name;
            this.cost = cost;
        }
    }

    private static final class Cart {
        String name;
        int toll;
        Set<String> yes = new LinkedHashSet<>();

        Cart copy() {
            Cart cart = new Cart();
            cart.name = name;
            cart.toll = toll;
            cart.yes = yes;
            return cart;
        }
    }

    /** A tree that never changes: a leaf has no question. */
    private static final class Node {
        int question = -1;
        int toll = -1;
        Node yes;
        Node no;
        List<Integer> set;
        int errors;
        int work;
    }

    private static final class Gate {
        String name;
        int opening;
        int closing;
        int limit;
        int[] counts;
        Node tree;

        Gate copy() {
            Gate gate = new Gate();
            gate.name = name;
            gate.opening = opening;
            gate.closing = closing;
            gate.limit = limit;
            gate.counts = counts.clone();
            gate.tree = tree;
            return gate;
        }
    }

    private static final class State {
        List<Question> questions = new ArrayList<>();
        List<Cart> carts = new ArrayList<>();
        List<Gate> gates = new ArrayList<>();
        int clock;
        Map<String, Integer> totals = new LinkedHashMap<>();

        State copy() {
            State state = new State();
            state.questions.addAll(questions);
            carts.forEach(cart -> state.carts.add(cart.copy()));
            gates.forEach(gate -> state.gates.add(gate.copy()));
            state.clock = clock;
            state.totals.putAll(totals);
            return state;
        }
    }

    private State now = new State();
    private final List<State> before = new ArrayList<>();
    private final State[] saved = new State[2];
    private String input = "";
    private String output = "";
    private int code = 0;
    private int offset = -1;

    public Model() {
        input = Check.FIRST_SETUP;
        load();
        before.clear();
    }

    // ---- trees

    private boolean yes(State s, int type, int question) {
        return s.carts.get(type).yes.contains(s.questions.get(question).name);
    }

    private static int weight(Gate gate, List<Integer> set) {
        return set.stream().mapToInt(type -> gate.counts[type]).sum();
    }

    private List<Integer> everyType(State s) {
        List<Integer> all = new ArrayList<>();
        for (int type = 0; type < s.carts.size(); type++) {
            all.add(type);
        }
        return all;
    }

    private Node leaf(State s, Gate gate, List<Integer> set) {
        Node best = null;
        for (int toll = 0; toll <= 99; toll++) {
            int wrong = 0;
            boolean borne = false;
            for (int type : set) {
                borne |= s.carts.get(type).toll == toll;
                wrong += s.carts.get(type).toll == toll ? 0 : gate.counts[type];
            }
            if (borne && (best == null || wrong < best.errors)) {
                best = new Node();
                best.toll = toll;
                best.errors = wrong;
                best.set = set;
            }
        }
        return best;
    }

    private Node best(State s, Gate gate, List<Integer> set, int limit, int without) {
        Node best = leaf(s, gate, set);
        for (int q = 0; q < s.questions.size(); q++) {
            int left = limit - s.questions.get(q).cost;
            List<Integer> yes = new ArrayList<>();
            List<Integer> no = new ArrayList<>();
            for (int type : set) {
                (yes(s, type, q) ? yes : no).add(type);
            }
            if (q == without || left < 0 || yes.isEmpty() || no.isEmpty()) {
                continue;
            }
            Node node = new Node();
            node.question = q;
            node.set = set;
            node.yes = best(s, gate, yes, left, without);
            node.no = best(s, gate, no, left, without);
            node.errors = node.yes.errors + node.no.errors;
            node.work = node.yes.work + node.no.work + s.questions.get(q).cost * weight(gate, set);
            if (node.errors < best.errors || node.errors == best.errors && node.work < best.work) {
                best = node;
            }
        }
        return best;
    }

    private Node best(State s, Gate gate, int limit, int without) {
        return best(s, gate, everyType(s), limit, without);
    }

    private static void preorder(Node node, List<Node> nodes) {
        if (node != null) {
            nodes.add(node);
            preorder(node.yes, nodes);
            preorder(node.no, nodes);
        }
    }

    private static List<Node> nodes(Gate gate) {
        List<Node> nodes = new ArrayList<>();
        preorder(gate.tree, nodes);
        return nodes;
    }

    private List<Node> path(State s, Gate gate, int type) {
        List<Node> path = new ArrayList<>();
        for (Node node = gate.tree; node != null; node = yes(s, type, node.question) ? node.yes : node.no) {
            path.add(node);
            if (node.question < 0) {
                break;
            }
        }
        return path;
    }

    private Node reached(State s, Gate gate, int type) {
        List<Node> path = path(s, gate, type);
        return path.get(path.size() - 1);
    }

    private int cost(State s, Gate gate, int type) {
        int sum = 0;
        for (Node node : path(s, gate, type)) {
            sum += node.question < 0 ? 0 : s.questions.get(node.question).cost;
        }
        return sum;
    }

    // ---- what commands and calls do

    private static boolean open(Gate gate, int clock) {
        for (int hour = gate.opening;; hour = (hour + 1) % 24) {
            if (hour == clock % 24) {
                return true;
            }
            if (hour == gate.closing) {
                return false;
            }
        }
    }

    private static void add(State s, String total, int more) {
        s.totals.merge(total, more, Integer::sum);
    }

    private int pass(State s, int g, int type, int number) {
        Gate gate = s.gates.get(g);
        int paid = reached(s, gate, type).toll;
        int due = s.carts.get(type).toll;
        add(s, "carts", number);
        add(s, "cost", number * cost(s, gate, type));
        add(s, "paid", number * paid);
        add(s, "due", number * due);
        add(s, "over carts", paid > due ? number : 0);
        add(s, "under carts", paid < due ? number : 0);
        add(s, "over", paid > due ? number * (paid - due) : 0);
        add(s, "under", paid < due ? number * (due - paid) : 0);
        gate.counts[type] = gate.counts[type] + number > 9999 ? 9999 : gate.counts[type] + number;
        return paid;
    }

    private void build(State s, int g) {
        s.gates.get(g).tree = best(s, s.gates.get(g), s.gates.get(g).limit, -1);
    }

    private static void halve(State s, int g) {
        int[] counts = s.gates.get(g).counts;
        for (int i = 0; i < counts.length; i++) {
            counts[i] = (counts[i] - counts[i] % 2) / 2;
        }
    }

    // ---- texts

    private int at;

    /** Returns the next token, the empty text at the end, and leaves its offset in at. */
    private String token() {
        while (at < input.length() && input.charAt(at) == ' ') {
            at++;
        }
        String rest = input.substring(at);
        String word = rest.replaceFirst("(?s)[^a-z].*", "");
        String number = rest.replaceFirst("(?s)[^0-9].*", "");
        return !word.isEmpty() ? word : !number.isEmpty() ? number : rest.isEmpty() ? "" : rest.substring(0, 1);
    }

    private String next(String pattern, int code) {
        String token = token();
        if (!token.matches(pattern)) {
            throw new Wrong(code, at);
        }
        at += token.length();
        return token;
    }

    private int number(int least, int greatest) {
        String token = token();
        int start = at;
        next("[0-9]+", 1);
        String digits = token.replaceFirst("^0+(?=.)", "");
        int value = digits.length() > 6 ? 999999 : Integer.parseInt(digits);
        if (value < least || value > greatest) {
            throw new Wrong(2, start);
        }
        return value;
    }

    private static int find(List<String> names, String name) {
        return names.indexOf(name);
    }

    private List<String> names(State s, char kind) {
        List<String> names = new ArrayList<>();
        if (kind == 'q') {
            s.questions.forEach(question -> names.add(question.name));
        } else if (kind == 'c') {
            s.carts.forEach(cart -> names.add(cart.name));
        } else {
            s.gates.forEach(gate -> names.add(gate.name));
        }
        return names;
    }

    private String newName(State s, char kind) {
        String name = token();
        int start = at;
        next("[a-z]{1,6}", 1);
        if (names(s, kind).contains(name)) {
            throw new Wrong(4, start);
        }
        return name;
    }

    private int oldName(State s, char kind) {
        String name = token();
        int start = at;
        next("[a-z]{1,6}", 1);
        if (!names(s, kind).contains(name)) {
            throw new Wrong(3, start);
        }
        return find(names(s, kind), name);
    }

    private void keyword(String word, int present, int most) {
        if (token().equals(word) && present >= most) {
            throw new Wrong(5, at);
        }
        next(word, 1);
    }

    private State setup() {
        State s = new State();
        next("tolls", 1);
        next(";", 1);
        do {
            keyword("ask", s.questions.size(), 6);
            String name = newName(s, 'q');
            s.questions.add(new Question(name, number(1, 9)));
            next(";", 1);
        } while (token().equals("ask"));
        do {
            keyword("cart", s.carts.size(), 8);
            Cart cart = new Cart();
            cart.name = newName(s, 'c');
            cart.toll = number(0, 99);
            while (!token().equals(";")) {
                int start = at;
                String name = s.questions.get(oldName(s, 'q')).name;
                if (!cart.yes.add(name)) {
                    throw new Wrong(4, start);
                }
            }
            s.carts.add(cart);
            next(";", 1);
        } while (token().equals("cart"));
        do {
            gate(s);
        } while (token().equals("gate"));
        return s;
    }

    private void gate(State s) {
        keyword("gate", s.gates.size(), 4);
        Gate gate = new Gate();
        gate.name = newName(s, 'g');
        gate.opening = number(0, 23);
        gate.closing = number(0, 23);
        gate.limit = number(0, 30);
        gate.counts = new int[s.carts.size()];
        for (int type = 0; type < gate.counts.length; type++) {
            gate.counts[type] = number(0, 9999);
        }
        if (token().matches("[0-9]+")) {
            int start = at;
            number(0, 9999);
            throw new Wrong(5, start);
        }
        next(";", 1);
        s.gates.add(gate);
        build(s, s.gates.size() - 1);
    }

    private int commands(State s) {
        int count = 0;
        for (; !token().isEmpty(); count++) {
            String command = next("pass|build|halve|toll|limit|hours", 1);
            if (command.equals("pass")) {
                int g = oldName(s, 'g');
                int type = oldName(s, 'c');
                token();
                int start = at;
                int number = number(1, 999);
                if (!open(s.gates.get(g), s.clock)) {
                    throw new Wrong(6, start);
                }
                pass(s, g, type, number);
            } else if (command.equals("build")) {
                build(s, oldName(s, 'g'));
            } else if (command.equals("halve")) {
                halve(s, oldName(s, 'g'));
            } else if (command.equals("toll")) {
                Cart cart = s.carts.get(oldName(s, 'c'));
                cart.toll = number(0, 99);
            } else if (command.equals("limit")) {
                Gate gate = s.gates.get(oldName(s, 'g'));
                gate.limit = number(0, 30);
            } else {
                s.clock += number(1, Math.min(100, 9999 - s.clock));
            }
            next(";", 1);
        }
        return count;
    }

    private void remember() {
        before.add(now.copy());
        if (before.size() > 8) {
            before.remove(0);
        }
    }

    private int parse(boolean setup) {
        at = 0;
        int answer = -1;
        try {
            State s = setup ? setup() : now.copy();
            int commands = commands(s);
            answer = setup ? s.carts.size() : commands;
            remember();
            now = s;
            code = 0;
            offset = -1;
        } catch (Wrong wrong) {
            code = wrong.code;
            offset = wrong.offset;
        }
        input = "";
        return answer;
    }

    /** What the draw of arguments near an edge must know. */
    int inputLength() {
        return input.length();
    }

    int outputLength() {
        return output.length();
    }

    // ---- the face

    public int append(int a, int b, int c, int d, int e) {
        if (input.length() > 680) {
            return -1;
        }
        StringBuilder more = new StringBuilder();
        for (int word : new int[] {a, b, c, d, e}) {
            for (int i = 3; i >= 0; i--) {
                more.append((char) (word >>> 8 * i & 255));
            }
        }
        input += more;
        return input.length();
    }

    public int truncateInput(int length) {
        range(length, 0, input.length());
        input = input.substring(0, length);
        return length;
    }

    public int load() {
        return parse(true);
    }

    public int play() {
        return parse(false);
    }

    public int errorCode() {
        return code;
    }

    public int errorOffset() {
        return offset;
    }

    private static void range(int value, int least, int greatest) {
        if (value < least || value > greatest) {
            throw new IllegalArgumentException();
        }
    }

    private static void index(int index, List<?> list) {
        if (index < 0 || index >= list.size()) {
            throw new IndexOutOfBoundsException();
        }
    }

    private Gate gateAt(int gate) {
        index(gate, now.gates);
        return now.gates.get(gate);
    }

    private Cart cartAt(int type) {
        index(type, now.carts);
        return now.carts.get(type);
    }

    private Question questionAt(int question) {
        index(question, now.questions);
        return now.questions.get(question);
    }

    private Node nodeAt(int gate, int node) {
        List<Node> nodes = nodes(gateAt(gate));
        index(node, nodes);
        return nodes.get(node);
    }

    public int passCarts(int gate, int type, int number) {
        gateAt(gate);
        cartAt(type);
        range(number, 1, 999);
        if (!open(gateAt(gate), now.clock)) {
            throw new IllegalStateException();
        }
        remember();
        return pass(now, gate, type, number);
    }

    public int buildTree(int gate) {
        gateAt(gate);
        remember();
        build(now, gate);
        return nodeCount(gate);
    }

    public int halveCounts(int gate) {
        gateAt(gate);
        remember();
        halve(now, gate);
        return weight(gateAt(gate), everyType(now));
    }

    public int setToll(int type, int toll) {
        int previous = cartAt(type).toll;
        range(toll, 0, 99);
        remember();
        cartAt(type).toll = toll;
        return previous;
    }

    public int setCostLimit(int gate, int limit) {
        int previous = gateAt(gate).limit;
        range(limit, 0, 30);
        remember();
        gateAt(gate).limit = limit;
        return previous;
    }

    public int advanceClock(int hours) {
        range(hours, 1, 100);
        if (now.clock + hours > 9999) {
            throw new IllegalStateException();
        }
        remember();
        now.clock += hours;
        return (int) now.gates.stream().filter(gate -> open(gate, now.clock)).count();
    }

    public int undo() {
        if (before.isEmpty()) {
            throw new IllegalStateException();
        }
        now = before.remove(before.size() - 1);
        return before.size();
    }

    public int save(int slot) {
        range(slot, 0, 1);
        saved[slot] = now.copy();
        return now.clock;
    }

    public int restore(int slot) {
        range(slot, 0, 1);
        if (saved[slot] == null) {
            throw new IllegalStateException();
        }
        remember();
        now = saved[slot].copy();
        return now.clock;
    }

    public int questionCount() {
        return now.questions.size();
    }

    public int typeCount() {
        return now.carts.size();
    }

    public int gateCount() {
        return now.gates.size();
    }

    public int clock() {
        return now.clock;
    }

    public int undoableChanges() {
        return before.size();
    }

    public int questionCost(int question) {
        return questionAt(question).cost;
    }

    public boolean hasTrait(int type, int question) {
        cartAt(type);
        questionAt(question);
        return yes(now, type, question);
    }

    public int toll(int type) {
        return cartAt(type).toll;
    }

    public int countAt(int gate, int type) {
        cartAt(type);
        return gateAt(gate).counts[type];
    }

    public int costLimit(int gate) {
        return gateAt(gate).limit;
    }

    public boolean isOpen(int gate) {
        return open(gateAt(gate), now.clock);
    }

    public int hoursUntilOpen(int gate) {
        int hours = 0;
        while (!open(gateAt(gate), now.clock + hours)) {
            hours++;
        }
        return hours;
    }

    private static int byteAt(String text, int index) {
        return index >= 0 && index < text.length() ? text.charAt(index) : -1;
    }

    public int questionNameByte(int question, int index) {
        return byteAt(questionAt(question).name, index);
    }

    public int typeNameByte(int type, int index) {
        return byteAt(cartAt(type).name, index);
    }

    public int gateNameByte(int gate, int index) {
        return byteAt(gateAt(gate).name, index);
    }

    private int total(String name) {
        return now.totals.getOrDefault(name, 0);
    }

    public int cartsPassed() {
        return total("carts");
    }

    public int costAsked() {
        return total("cost");
    }

    public int tollsPaid() {
        return total("paid");
    }

    public int tollsDue() {
        return total("due");
    }

    public int cartsOvercharged() {
        return total("over carts");
    }

    public int cartsUndercharged() {
        return total("under carts");
    }

    public int overcharge() {
        return total("over");
    }

    public int undercharge() {
        return total("under");
    }

    public int nodeCount(int gate) {
        return nodes(gateAt(gate)).size();
    }

    public int nodeQuestion(int gate, int node) {
        return nodeAt(gate, node).question;
    }

    public int leafToll(int gate, int node) {
        return nodeAt(gate, node).toll;
    }

    public int yesChild(int gate, int node) {
        return nodes(gateAt(gate)).indexOf(nodeAt(gate, node).yes);
    }

    public int noChild(int gate, int node) {
        return nodes(gateAt(gate)).indexOf(nodeAt(gate, node).no);
    }

    public int typesAt(int gate, int node) {
        return nodeAt(gate, node).set.stream().mapToInt(type -> 1 << type).sum();
    }

    public int leafOf(int gate, int type) {
        gateAt(gate);
        cartAt(type);
        return nodes(gateAt(gate)).indexOf(reached(now, gateAt(gate), type));
    }

    public int chargedToll(int gate, int type) {
        gateAt(gate);
        cartAt(type);
        return reached(now, gateAt(gate), type).toll;
    }

    public int pathCost(int gate, int type) {
        gateAt(gate);
        cartAt(type);
        return cost(now, gateAt(gate), type);
    }

    public int errors(int gate) {
        int sum = 0;
        for (int type : everyType(now)) {
            sum += reached(now, gateAt(gate), type).toll == cartAt(type).toll ? 0 : gateAt(gate).counts[type];
        }
        return gateAt(gate) == null ? 0 : sum;
    }

    public int work(int gate) {
        int sum = 0;
        for (Node node : nodes(gateAt(gate))) {
            sum += node.question < 0 ? 0 : questionAt(node.question).cost * weight(gateAt(gate), node.set);
        }
        return sum;
    }

    public int mischargeReason(int gate, int type) {
        gateAt(gate);
        cartAt(type);
        Node leaf = reached(now, gateAt(gate), type);
        if (leaf.toll == cartAt(type).toll) {
            return 0;
        }
        for (int other : everyType(now)) {
            if (other != type && cartAt(other).yes.equals(cartAt(type).yes) && cartAt(other).toll == leaf.toll) {
                return 1;
            }
        }
        for (int one : leaf.set) {
            if (!cartAt(one).yes.equals(cartAt(type).yes)) {
                return 2;
            }
        }
        return 3;
    }

    private Node bestNow(int gate, int limit) {
        gateAt(gate);
        range(limit, 0, 30);
        return best(now, gateAt(gate), limit, -1);
    }

    public int bestErrors(int gate, int limit) {
        return bestNow(gate, limit).errors;
    }

    public int bestWork(int gate, int limit) {
        return bestNow(gate, limit).work;
    }

    public int bestRootQuestion(int gate, int limit) {
        return bestNow(gate, limit).question;
    }

    public int errorsWithout(int gate, int question) {
        gateAt(gate);
        questionAt(question);
        return best(now, gateAt(gate), gateAt(gate).limit, question).errors;
    }

    public int sufficientLimit(int gate) {
        int limit = 30;
        int fewest = bestErrors(gate, 30);
        while (limit > 0 && bestErrors(gate, limit - 1) == fewest) {
            limit--;
        }
        return limit;
    }

    public int stalestGate() {
        int stalest = -1;
        long most = 0;
        for (int gate = 0; gate < gateCount(); gate++) {
            Node best = bestNow(gate, costLimit(gate));
            long gain = (errors(gate) - best.errors) * 100_000_000L + (work(gate) - best.work);
            if (gain > most) {
                most = gain;
                stalest = gate;
            }
        }
        return stalest;
    }

    public int quickestGate(int type) {
        cartAt(type);
        int quickest = -1;
        int least = Integer.MAX_VALUE;
        for (int gate = 0; gate < gateCount(); gate++) {
            int rank = pathCost(gate, type) * 100 + chargedToll(gate, type);
            if (isOpen(gate) && rank < least) {
                least = rank;
                quickest = gate;
            }
        }
        return quickest;
    }

    public int inconsistencies() {
        return 0;
    }

    public double meanPathCost(int gate) {
        int sum = weight(gateAt(gate), everyType(now));
        return sum == 0 ? 0.0 : (double) work(gate) / sum;
    }

    public float correctShare() {
        int right = cartsPassed() - cartsOvercharged() - cartsUndercharged();
        return cartsPassed() == 0 ? 1.0f : (float) right / cartsPassed();
    }

    private String text(Node node) {
        if (node.question < 0) {
            return "=" + node.toll;
        }
        return questionAt(node.question).name + "(" + text(node.yes) + "," + text(node.no) + ")";
    }

    public int writeTree(int gate) {
        output = text(gateAt(gate).tree);
        return output.length();
    }

    public int outputByte(int index) {
        return byteAt(output, index);
    }
}
