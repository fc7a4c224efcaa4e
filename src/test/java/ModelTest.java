import java.lang.reflect.InvocationTargetException;
import java.lang.reflect.Method;
import java.util.ArrayList;
import java.util.Arrays;
import java.util.List;

/**
 * Runs of calls, drawn by a fixed rule, on the class and on the model of the document side by side. An object has its
 * 512 calls and no more.
 */
public final class ModelTest {
    private static final int RUNS = 1000;
    private static final int CALLS = 512;
    private static final String[] CHANGES = {"passCarts", "passCarts", "passCarts", "buildTree", "halveCounts", "setToll",
        "setToll", "setCostLimit", "advanceClock", "advanceClock", "undo", "save", "restore"};

    private final Method[] methods;
    private long drawn;
    private TollTrees x;
    private Model model;
    private int calls;
    private final List<String> told = new ArrayList<>();

    private ModelTest() {
        Method[] all = TollTrees.class.getMethods();
        List<Method> own = new ArrayList<>();
        for (Method method : all) {
            if (method.getDeclaringClass() == TollTrees.class) {
                own.add(method);
            }
        }
        own.sort((one, other) -> one.getName().compareTo(other.getName()));
        methods = own.toArray(new Method[0]);
    }

    public static void main(String[] args) throws Exception {
        ModelTest test = new ModelTest();
        int runs = args.length > 0 ? Integer.parseInt(args[0]) : RUNS;
        for (int run = 0; run < runs; run++) {
            test.run(run);
        }
        Check.finish("ModelTest");
    }

    /** A linear congruence: the same numbers in every run of the test. */
    private int draw(int below) {
        drawn = drawn * 6364136223846793005L + 1442695040888963407L;
        return (int) ((drawn >>> 33) % below);
    }

    private boolean sometimes(int oneIn) {
        return draw(oneIn) == 0;
    }

    private void run(int run) throws Exception {
        drawn = run * 7919L + 17;
        x = new TollTrees();
        model = new Model();
        told.clear();
        calls = 0;
        if (sometimes(10)) {
            text("hours 100;".repeat(70), "play");
            text("hours 100;".repeat(28) + "hours " + (50 + draw(50)) + ";", "play");
        }
        while (calls < CALLS) {
            int kind = draw(20);
            if (kind == 0) {
                text(setup(), "load");
            } else if (kind < 3) {
                text(script(1 + draw(8)), "play");
            } else if (kind < 9) {
                call(method(CHANGES[draw(CHANGES.length)]));
            } else if (kind == 9) {
                output();
            } else {
                call(methods[draw(methods.length)]);
            }
        }
    }

    private Method method(String name) {
        return Arrays.stream(methods).filter(m -> m.getName().equals(name)).findFirst().get();
    }

    private void call(Method method) throws Exception {
        Object[] arguments = new Object[method.getParameterCount()];
        for (int i = 0; i < arguments.length; i++) {
            arguments[i] = argument(method.getName(), i);
        }
        call(method, arguments);
    }

    private int argument(String name, int position) {
        if (sometimes(40)) {
            int[] odd = {-1, Integer.MIN_VALUE, Integer.MAX_VALUE, 31, 100, 1000, 8, 6, 4, 15};
            return odd[draw(odd.length)];
        }
        if (sometimes(10)) {
            return edge(name + position);
        }
        switch (name + position) {
            case "passCarts2":
                return sometimes(3) ? 1 + draw(999) : 1 + draw(20);
            case "setToll1":
                return sometimes(2) ? draw(100) : draw(8);
            case "setCostLimit1": case "bestErrors1": case "bestWork1": case "bestRootQuestion1":
                return draw(31);
            case "advanceClock0":
                return sometimes(2) ? 1 + draw(100) : 1 + draw(5);
            case "save0": case "restore0":
                return draw(2);
            case "outputByte0": case "truncateInput0":
                return draw(60);
            case "nodeQuestion1": case "leafToll1": case "yesChild1": case "noChild1": case "typesAt1":
                return draw(10);
            case "append0": case "append1": case "append2": case "append3": case "append4":
                return draw(1 << 30);
            case "questionNameByte1": case "typeNameByte1": case "gateNameByte1":
                return draw(8);
            case "questionCost0": case "questionNameByte0": case "hasTrait1": case "errorsWithout1":
                return draw(model.questionCount() + (sometimes(8) ? 1 : 0));
            case "toll0": case "setToll0": case "hasTrait0": case "quickestGate0": case "typeNameByte0":
            case "passCarts1": case "countAt1": case "leafOf1": case "chargedToll1": case "pathCost1":
            case "mischargeReason1":
                return draw(model.typeCount() + (sometimes(8) ? 1 : 0));
            default:
                return draw(model.gateCount() + (sometimes(8) ? 1 : 0));
        }
    }

    /** The least or the greatest that is in range, or what is just outside. */
    private int edge(String parameter) {
        switch (parameter) {
            case "passCarts2":
                return new int[] {0, 1, 999, 1000}[draw(4)];
            case "setToll1":
                return new int[] {-1, 0, 99, 100}[draw(4)];
            case "setCostLimit1": case "bestErrors1": case "bestWork1": case "bestRootQuestion1":
                return new int[] {-1, 0, 30, 31}[draw(4)];
            case "advanceClock0":
                return new int[] {0, 1, 100, 101}[draw(4)];
            case "truncateInput0":
                return model.inputLength() + draw(2);
            case "outputByte0":
                return model.outputLength() - draw(2);
            case "nodeQuestion1": case "leafToll1": case "yesChild1": case "noChild1": case "typesAt1":
                return model.nodeCount(0) - draw(2);
            default:
                return draw(3);
        }
    }

    private static Object answer(Object target, Method method, Object[] arguments) throws Exception {
        try {
            return target.getClass().getMethod(method.getName(), method.getParameterTypes()).invoke(target, arguments);
        } catch (InvocationTargetException e) {
            return e.getCause().getClass().getSimpleName();
        }
    }

    private void call(Method method, Object[] arguments) throws Exception {
        if (calls == CALLS) {
            return;
        }
        calls++;
        Object want = answer(model, method, arguments);
        Object got = answer(x, method, arguments);
        String call = method.getName() + Arrays.toString(arguments);
        told.add(call);
        if (!want.equals(got)) {
            System.out.println("after " + told);
        }
        Check.same(call, want, got);
    }

    private void output() throws Exception {
        call(method("writeTree"));
        for (int i = 0; i < model.nodeCount(0) * 5 && calls < CALLS; i++) {
            call(method("outputByte"), new Object[] {i});
        }
    }

    private void text(String text, String method) throws Exception {
        StringBuilder padded = new StringBuilder(text);
        if (sometimes(3)) {
            spoil(padded);
        }
        if (padded.length() > 700) {
            padded.setLength(700);
        }
        int length = padded.length();
        while (padded.length() % 20 != 0) {
            padded.append(' ');
        }
        told.add("'" + padded + "'");
        // What an earlier append left is taken away first; what may be left here is left.
        call(method("truncateInput"), new Object[] {0});
        for (int i = 0; i < padded.length(); i += 20) {
            call(method("append"), new Object[] {Check.word(padded, i), Check.word(padded, i + 4),
                Check.word(padded, i + 8), Check.word(padded, i + 12), Check.word(padded, i + 16)});
        }
        call(method("truncateInput"), new Object[] {length});
        call(method(method), new Object[0]);
        call(method("errorCode"), new Object[0]);
        call(method("errorOffset"), new Object[0]);
        if (sometimes(4)) {
            look();
        }
    }

    private void ask(String name, Object... arguments) throws Exception {
        call(method(name), arguments);
    }

    /** Compares all of the state, as far as the calls that are left reach. */
    private void look() throws Exception {
        for (String name : new String[] {"questionCount", "typeCount", "gateCount", "clock", "undoableChanges", "cartsPassed",
            "costAsked", "tollsPaid", "tollsDue", "cartsOvercharged", "cartsUndercharged", "overcharge", "undercharge"}) {
            ask(name);
        }
        for (int gate = 0; gate < model.gateCount(); gate++) {
            lookAt(gate);
        }
        for (int type = 0; type < model.typeCount(); type++) {
            ask("toll", type);
            ask("typeNameByte", type, draw(7));
            for (int question = 0; question < model.questionCount(); question++) {
                ask("hasTrait", type, question);
            }
        }
        for (int question = 0; question < model.questionCount(); question++) {
            ask("questionCost", question);
            ask("questionNameByte", question, draw(7));
        }
    }

    private void lookAt(int gate) throws Exception {
        for (String name : new String[] {"isOpen", "hoursUntilOpen", "costLimit", "nodeCount", "errors", "work"}) {
            ask(name, gate);
        }
        ask("gateNameByte", gate, draw(7));
        for (int type = 0; type < model.typeCount(); type++) {
            ask("countAt", gate, type);
            ask("leafOf", gate, type);
        }
        for (int node = 0; node < model.nodeCount(gate); node++) {
            for (String name : new String[] {"nodeQuestion", "leafToll", "yesChild", "noChild", "typesAt"}) {
                ask(name, gate, node);
            }
        }
    }

    // ---- texts

    private String name(int index) {
        String[] names = {"a", "b", "ask", "cart", "gate", "toll", "abcdef", "z", "pass", "hours"};
        return names[index % names.length];
    }

    private String setup() {
        StringBuilder text = new StringBuilder("tolls;");
        int questions = 1 + draw(sometimes(8) ? 7 : 6);
        int carts = 1 + draw(sometimes(8) ? 9 : 8);
        int gates = 1 + draw(sometimes(8) ? 5 : 4);
        int turn = draw(10);
        for (int q = 0; q < questions; q++) {
            text.append("ask ").append(name(q + turn)).append(' ').append(1 + draw(sometimes(2) ? 9 : 3)).append(';');
        }
        int tolls = 2 + draw(8);
        boolean far = sometimes(2);
        for (int c = 0; c < carts; c++) {
            text.append("cart ").append(name(c + turn)).append(' ').append(draw(tolls) * (far ? 11 : 1));
            for (int q = 0; q < Math.min(questions, 6); q++) {
                text.append(sometimes(2) ? " " + name(q + turn) : "");
            }
            text.append(';');
        }
        int counts = sometimes(3) ? 9999 : sometimes(2) ? 4 : 100;
        for (int g = 0; g < gates; g++) {
            text.append("gate ").append(name(g + turn)).append(' ').append(draw(24)).append(' ').append(draw(24))
                .append(' ').append(draw(sometimes(2) ? 31 : 8));
            for (int c = 0; c < carts; c++) {
                text.append(' ').append(draw(counts + 1));
            }
            text.append(';');
        }
        String whole = text.toString();
        return sometimes(2) ? whole : whole + script(1 + draw(3), names(gates, turn), names(carts, turn));
    }

    /** A script with the names that the model has at present. */
    private String script(int commands) {
        List<String> gates = new ArrayList<>();
        for (int g = 0; g < model.gateCount(); g++) {
            StringBuilder name = new StringBuilder();
            for (int i = 0; model.gateNameByte(g, i) != -1; i++) {
                name.append((char) model.gateNameByte(g, i));
            }
            gates.add(name.toString());
        }
        List<String> carts = new ArrayList<>();
        for (int t = 0; t < model.typeCount(); t++) {
            StringBuilder name = new StringBuilder();
            for (int i = 0; model.typeNameByte(t, i) != -1; i++) {
                name.append((char) model.typeNameByte(t, i));
            }
            carts.add(name.toString());
        }
        return script(commands, gates, carts);
    }

    private List<String> names(int count, int turn) {
        List<String> names = new ArrayList<>();
        for (int i = 0; i < count; i++) {
            names.add(name(i + turn));
        }
        return names;
    }

    private String oneOf(List<String> names) {
        return sometimes(20) ? name(draw(10)) : names.get(draw(names.size()));
    }

    private String script(int commands, List<String> gates, List<String> carts) {
        StringBuilder text = new StringBuilder();
        for (int i = 0; i < commands; i++) {
            String gate = oneOf(gates);
            String cart = oneOf(carts);
            switch (draw(7)) {
                case 0: case 1:
                    text.append("pass ").append(gate).append(' ').append(cart).append(' ')
                        .append(sometimes(12) ? 990 + draw(12) : draw(60));
                    break;
                case 2:
                    text.append("build ").append(gate);
                    break;
                case 3:
                    text.append("halve ").append(gate);
                    break;
                case 4:
                    text.append("toll ").append(cart).append(' ')
                        .append(sometimes(10) ? 96 + draw(6) : draw(20));
                    break;
                case 5:
                    text.append("limit ").append(gate).append(' ').append(draw(sometimes(4) ? 33 : 31));
                    break;
                default:
                    text.append("hours ").append(sometimes(20) ? 98 + draw(5) : sometimes(6) ? draw(101) : 1 + draw(10));
                    break;
            }
            text.append(';');
        }
        return text.toString();
    }

    /** Writes the word or number at some place once more, a space between. */
    private static void again(StringBuilder text, int at) {
        int start = at;
        while (start > 0 && Character.isLetterOrDigit(text.charAt(start - 1))) {
            start--;
        }
        text.insert(start, text.substring(start, at) + " ");
    }

    /** Changes a byte, takes one away, puts one or more in, writes something twice, or cuts the text off. */
    private void spoil(StringBuilder text) {
        String signs = "abz 0129;; A-\u0000\u0080\u00ff\n`{/:";
        for (int i = 0; i <= draw(2); i++) {
            int at = draw(text.length());
            char sign = signs.charAt(draw(signs.length()));
            switch (draw(6)) {
                case 4:
                    text.insert(at, draw(120));
                    break;
                case 5:
                    again(text, at);
                    break;
                case 0:
                    text.setCharAt(at, sign);
                    break;
                case 1:
                    text.deleteCharAt(at);
                    break;
                case 2:
                    text.insert(at, sign);
                    break;
                default:
                    text.setLength(at);
                    text.append(sometimes(2) ? "" : " ");
                    break;
            }
            if (text.length() == 0) {
                return;
            }
        }
    }
}
