import java.io.IOException;
import java.lang.reflect.Constructor;
import java.lang.reflect.Field;
import java.lang.reflect.Method;
import java.lang.reflect.Modifier;
import java.nio.file.Files;
import java.nio.file.Path;
import java.util.ArrayList;
import java.util.Arrays;
import java.util.Collections;
import java.util.LinkedHashMap;
import java.util.List;
import java.util.Map;
import java.util.TreeSet;

/** The public face: every constant, constructor and method of the document, in its groups, and no other. */
public final class FaceTest {
    private static final String I = "IndexOutOfBoundsException";
    private static final String A = "IllegalArgumentException";
    private static final String S = "IllegalStateException";

    public static void main(String[] args) throws Exception {
        Check.same("class", true, Modifier.isPublic(TollTrees.class.getModifiers())
            && Modifier.isFinal(TollTrees.class.getModifiers()));
        Check.same("NONE", -1, TollTrees.NONE);
        fields();
        constructors();
        methods();
        Doc.read();
        if (!Doc.face().isEmpty()) {
            document();
            groups();
        }
        Check.finish("FaceTest");
    }

    private static void fields() {
        List<String> seen = new ArrayList<>();
        for (Field field : TollTrees.class.getDeclaredFields()) {
            if (!Modifier.isPrivate(field.getModifiers())) {
                seen.add(Modifier.toString(field.getModifiers()) + " " + field.getType() + " " + field.getName());
            }
        }
        Check.same("constants", List.of("public static final int NONE"), seen);
    }

    private static void constructors() {
        List<String> seen = new ArrayList<>();
        for (Constructor<?> constructor : TollTrees.class.getDeclaredConstructors()) {
            if (!Modifier.isPrivate(constructor.getModifiers())) {
                seen.add(constructor.toString());
            }
        }
        Check.same("constructors", List.of("public TollTrees()"), seen);
    }

    private static void methods() {
        TreeSet<String> seen = new TreeSet<>();
        List<String> hidden = new ArrayList<>();
        for (Method method : TollTrees.class.getDeclaredMethods()) {
            if (Modifier.isPrivate(method.getModifiers())) {
                hidden.add(method.getName());
            } else {
                seen.add(shown(method));
            }
        }
        TreeSet<String> want = new TreeSet<>(Arrays.asList(face()));
        Check.same("methods", want, seen);
        for (String line : want) {
            String name = line.substring(line.indexOf(' ') + 1, line.indexOf('('));
            Check.same("private methods named " + name, 0, Collections.frequency(hidden, name));
        }
    }

    /** The list below is the face that the document tells, once as a whole and once more promise by promise. */
    private static void document() {
        List<String> face = Doc.face();
        Check.same("the document's constant", "public static final int NONE = -1;", face.get(0));
        Check.same("the document's constructor", "public TollTrees();", face.get(1));
        TreeSet<String> calls = new TreeSet<>();
        for (String line : face.subList(2, face.size())) {
            String types = line.replaceAll("\\bint \\w+(?=[,)])", "i").replaceAll("(?<=i), (?=i)", "");
            calls.add(types.replaceFirst("public ", "").replaceFirst(" throws", "").replaceAll("[,;]", ""));
        }
        Check.same("the document's calls", new TreeSet<>(Arrays.asList(face())), calls);
        List<String> promised = new ArrayList<>();
        for (String call : Doc.promised()) {
            promised.add("public " + call + ";");
        }
        Check.same("the document's promises", face.subList(1, face.size()), promised);
    }

    /** The calls stand in the document's groups, in its order, behind the names of the groups. */
    private static void groups() throws IOException {
        Map<String, List<String>> groups = new LinkedHashMap<>();
        String group = "";
        for (String line : Files.readAllLines(Path.of("src/main/java/TollTrees.java"))) {
            if (line.startsWith("    // ---- ")) {
                group = line.substring("    // ---- ".length());
            } else if (line.matches(" {4}public \\w+ \\w+\\(.*")) {
                String name = line.substring(0, line.indexOf('(')).replaceFirst(".* ", "");
                groups.computeIfAbsent(group, key -> new ArrayList<>()).add(name);
            }
        }
        Check.same("groups", Doc.groups().toString(), groups.toString());
    }

    private static String shown(Method method) {
        StringBuilder line = new StringBuilder(method.getReturnType() + " " + method.getName() + "(");
        for (Class<?> type : method.getParameterTypes()) {
            line.append(type == int.class ? "i" : "?");
        }
        line.append(')');
        for (Class<?> thrown : method.getExceptionTypes()) {
            line.append(' ').append(thrown.getSimpleName());
        }
        return line.toString();
    }

    private static String[] face() {
        return new String[] {
            "int append(iiiii)", "int truncateInput(i) " + A, "int load()", "int play()", "int errorCode()",
            "int errorOffset()", "int passCarts(iii) " + I + " " + A + " " + S, "int buildTree(i) " + I,
            "int halveCounts(i) " + I, "int setToll(ii) " + I + " " + A, "int setCostLimit(ii) " + I + " " + A,
            "int advanceClock(i) " + A + " " + S, "int undo() " + S, "int save(i) " + A,
            "int restore(i) " + A + " " + S, "int questionCount()", "int typeCount()", "int gateCount()",
            "int clock()", "int undoableChanges()", "int questionCost(i) " + I, "boolean hasTrait(ii) " + I,
            "int toll(i) " + I, "int countAt(ii) " + I, "int costLimit(i) " + I, "boolean isOpen(i) " + I,
            "int hoursUntilOpen(i) " + I, "int questionNameByte(ii) " + I, "int typeNameByte(ii) " + I,
            "int gateNameByte(ii) " + I, "int cartsPassed()", "int costAsked()", "int tollsPaid()",
            "int tollsDue()", "int cartsOvercharged()", "int cartsUndercharged()", "int overcharge()",
            "int undercharge()", "int nodeCount(i) " + I, "int nodeQuestion(ii) " + I, "int leafToll(ii) " + I,
            "int yesChild(ii) " + I, "int noChild(ii) " + I, "int typesAt(ii) " + I, "int leafOf(ii) " + I,
            "int chargedToll(ii) " + I, "int pathCost(ii) " + I, "int errors(i) " + I, "int work(i) " + I,
            "int mischargeReason(ii) " + I, "int bestErrors(ii) " + I + " " + A, "int bestWork(ii) " + I + " " + A,
            "int bestRootQuestion(ii) " + I + " " + A, "int errorsWithout(ii) " + I, "int sufficientLimit(i) " + I,
            "int stalestGate()", "int quickestGate(i) " + I, "int inconsistencies()", "double meanPathCost(i) " + I,
            "float correctShare()", "int writeTree(i) " + I, "int outputByte(i)"};
    }
}
