import java.io.File;
import java.io.IOException;
import java.lang.reflect.Method;
import java.lang.reflect.Modifier;
import java.net.URL;
import java.net.URLClassLoader;
import java.nio.file.Files;
import java.nio.file.Path;
import java.util.ArrayList;
import java.util.LinkedHashMap;
import java.util.List;
import java.util.Map;
import java.util.TreeSet;
import java.util.regex.Matcher;
import java.util.regex.Pattern;

/** README.md: its examples are run, and its tables are compared with the class, the document and the tests. */
public final class ReadmeTest {
    private static final Pattern BLOCK = Pattern.compile("(?s)```java\n(.*?)```");
    /** A call of an example, and behind it what it answers or throws. */
    private static final Pattern ANSWER = Pattern.compile("(\\S.*);\\s+// (throws \\w+|\"[^\"]*\"|[-\\w.]+)(: .*)?");
    private static final Pattern ERROR = Pattern.compile("(?m)^\\| (\\d) \\| [^|]* \\| `([^`]*)` \\| (\\d+) \\|$");
    private static final Pattern ROW = Pattern.compile("\\| `((\\w+)\\((.*)\\))` \\| [^|]+ \\|(.*)\\|");
    private static final Map<String, String> THROWN = Map.of("index", "IndexOutOfBoundsException",
        "argument", "IllegalArgumentException", "state", "IllegalStateException");

    public static void main(String[] args) throws Exception {
        String page = Files.readString(Path.of("README.md"));
        examples(page);
        errors(page);
        calls(page);
        links(page);
        tests(page);
        Check.finish("ReadmeTest");
    }

    // ---- examples

    /** The examples are made one class: blocks that begin with a method stand in it, the others are run in their order. */
    private static void examples(String page) throws Exception {
        StringBuilder methods = new StringBuilder();
        StringBuilder run = new StringBuilder();
        List<String> calls = new ArrayList<>();
        List<String> wants = new ArrayList<>();
        Matcher block = BLOCK.matcher(page);
        while (block.find()) {
            if (block.group(1).startsWith("static ")) {
                methods.append(block.group(1));
                continue;
            }
            for (String line : block.group(1).split("\n")) {
                Matcher answer = ANSWER.matcher(line);
                if (answer.matches()) {
                    calls.add(answer.group(1));
                    wants.add(answer.group(2).replace("\"", "").replaceFirst("^NONE$", "-1"));
                    run.append("try { seen.add(\"\" + ").append(answer.group(1)).append("); } catch (RuntimeException e) ")
                        .append("{ seen.add(\"throws \" + e.getClass().getSimpleName()); }\n");
                } else {
                    Check.same("what the example answers in: " + line, false, line.contains("//"));
                    run.append(line).append('\n');
                }
            }
        }
        Check.same("there are examples", true, calls.size() > 20);
        List<?> seen = ran("public final class Examples {\n" + methods
            + "public static void run(java.util.List<String> seen) {\n" + run + "}\n}\n");
        Check.same("number of answers", calls.size(), seen.size());
        for (int i = 0; i < seen.size(); i++) {
            Check.same("example " + (i + 1) + ", " + calls.get(i) + ",", wants.get(i), seen.get(i));
        }
    }

    private static List<?> ran(String program) throws Exception {
        Path place = Files.createTempDirectory("readme");
        Path source = Files.writeString(place.resolve("Examples.java"), program);
        List<String> seen = new ArrayList<>();
        try {
            int failed = new ProcessBuilder("javac", "-cp", System.getProperty("java.class.path"), "-d", place.toString(),
                source.toString()).inheritIO().start().waitFor();
            Check.same("the examples compile", 0, failed);
            URL[] places = {place.toUri().toURL()};
            try (URLClassLoader loader = new URLClassLoader(places, ReadmeTest.class.getClassLoader())) {
                loader.loadClass("Examples").getMethod("run", List.class).invoke(null, seen);
            }
        } finally {
            for (File file : place.toFile().listFiles()) {
                file.delete();
            }
            place.toFile().delete();
        }
        return seen;
    }

    /** The table of error codes: each row has a text for a new object. */
    private static void errors(String page) {
        TreeSet<String> codes = new TreeSet<>();
        Matcher row = ERROR.matcher(page);
        while (row.find()) {
            TollTrees x = new TollTrees();
            String text = row.group(2);
            int answer = text.startsWith("tolls") ? Parse.load(x, text) : Parse.play(x, text);
            Check.same(text, TollTrees.NONE, answer);
            Check.same(text + " has code", row.group(1), "" + x.errorCode());
            Check.same(text + " has its error at", row.group(3), "" + x.errorOffset());
            codes.add(row.group(1));
        }
        Check.same("codes with an example", "[1, 2, 3, 4, 5, 6]", codes.toString());
    }

    // ---- calls

    private static void calls(String page) throws IOException {
        Map<String, List<String>> groups = new LinkedHashMap<>();
        Map<String, String> faces = new LinkedHashMap<>();
        String group = "";
        for (String line : page.substring(page.indexOf("\n## The calls\n"), page.indexOf("\n## Tests\n")).split("\n")) {
            Matcher row = ROW.matcher(line);
            if (line.startsWith("### ")) {
                group = line.substring(4);
            } else if (row.matches()) {
                groups.computeIfAbsent(group, key -> new ArrayList<>()).add(row.group(2));
                faces.put(row.group(2), row.group(1) + thrown(row.group(4)));
            }
        }
        TreeSet<String> names = new TreeSet<>();
        for (Method method : TollTrees.class.getDeclaredMethods()) {
            if (Modifier.isPublic(method.getModifiers())) {
                names.add(method.getName());
                compare(method, faces.getOrDefault(method.getName(), "nothing"));
            }
        }
        Check.same("calls of the page", names, new TreeSet<>(faces.keySet()));
        Doc.read();
        if (!Doc.face().isEmpty()) {
            Check.same("groups", Doc.groups().toString(), groups.toString());
            parameters(faces);
        }
    }

    /** What the last cell of a row names, as the method itself would declare it. */
    private static String thrown(String cell) {
        StringBuilder all = new StringBuilder();
        for (String part : cell.trim().split(", ")) {
            String word = part.replaceFirst(":.*", "");
            all.append(word.isEmpty() ? "" : " " + THROWN.getOrDefault(word, word));
        }
        return all.toString();
    }

    private static void compare(Method method, String face) {
        StringBuilder declared = new StringBuilder();
        for (Class<?> exception : method.getExceptionTypes()) {
            declared.append(' ').append(exception.getSimpleName());
        }
        Check.same("exceptions of " + method.getName(), declared.toString(), face.replaceFirst("[^)]*\\)", ""));
    }

    /** The names of the parameters are those of the document. */
    private static void parameters(Map<String, String> faces) {
        for (String line : Doc.face()) {
            Matcher call = Pattern.compile("public \\w+ ((\\w+)\\(.*\\)).*").matcher(line);
            if (call.matches()) {
                String face = faces.getOrDefault(call.group(2), "nothing");
                Check.same("parameters", call.group(1).replace("int ", ""), face.replaceFirst("\\).*", ")"));
            }
        }
    }

    // ---- the page

    private static void links(String page) {
        Matcher link = Pattern.compile("\\]\\(#([^)]*)\\)").matcher(page);
        while (link.find()) {
            String heading = link.group(1).replace('-', ' ');
            Check.same("heading " + heading, true, page.toLowerCase().contains("\n## " + heading + "\n"));
        }
    }

    private static void tests(String page) {
        for (String file : new File("src/test/java").list()) {
            Check.same(file + " is told", true, page.contains("`" + file.replace(".java", "") + "`"));
        }
    }
}
