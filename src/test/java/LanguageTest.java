import java.io.IOException;
import java.nio.file.Files;
import java.nio.file.Path;
import java.util.regex.Matcher;
import java.util.regex.Pattern;

/** The rules of LANGUAGE.md that can be seen from the text of the class. */
public final class LanguageTest {
    private static final Path SOURCE = Path.of("src/main/java/TollTrees.java");

    public static void main(String[] args) throws IOException {
        String source = Files.readString(SOURCE);
        String code = source.replaceAll("(?s)/\\*.*?\\*/", "").replaceAll("//[^\n]*", "");
        String bare = code.replaceAll("\"(\\\\.|[^\"])*\"", "\"\"").replaceAll("'(\\\\.|[^'])'", "' '");
        Check.same("ASCII", true, source.chars().allMatch(sign -> sign == '\n' || sign >= 32 && sign < 127));
        words(bare);
        imports(code);
        library(bare);
        classes(bare);
        methods(bare);
        Check.finish("LanguageTest");
    }

    private static void none(String what, String pattern, String code) {
        Matcher matcher = Pattern.compile(pattern).matcher(code);
        Check.same(what, "none", matcher.find() ? matcher.group() : "none");
    }

    private static void words(String code) {
        for (String word : new String[] {"package", "finally", "synchronized", "assert", "native", "volatile", "transient",
            "strictfp", "protected", "Thread", "hashCode", "getMessage", "Runtime", "Class"}) {
            none("word " + word, "\\b" + word + "\\b", code);
        }
        none("lambda", "(?m)^(?!\\s*(case\\b[^>]*|default\\s*)->).*->.*$", code);
        none("method reference", "::", code);
        none("static initialiser", "static\\s*\\{", code);
        none("text joined by +", "\"\\s*\\+|\\+\\s*\"", code);
        none("other exception", "throw (?!new (IllegalState|IllegalArgument|IndexOutOfBounds|Arithmetic|UnsupportedOperation"
            + "|NoSuchElement|Runtime)Exception\\((\"\")?\\);)", code);
        none("catch of what the machine throws", "catch \\([^)]*\\b((ArrayIndexOutOfBounds|NullPointer|ClassCast"
            + "|NegativeArraySize|ArrayStore)Exception|Throwable|Exception|Error)\\b", code);
    }

    private static void imports(String code) {
        Matcher matcher = Pattern.compile("import ([^;]*);").matcher(code);
        while (matcher.find()) {
            Check.same("import " + matcher.group(1), true, matcher.group(1)
                .matches("java\\.util\\.(Arrays|ArrayList|List|Iterator|NoSuchElementException)"));
        }
    }

    private static void library(String code) {
        none("exact arithmetic", "\\b(Math|Integer|Long)\\.\\w*Exact\\b", code);
        none("Math over doubles", "Math\\.(random|sqrt|cbrt|pow|exp|log|sin|cos|tan|floor|ceil|rint|round)\\(", code);
        none("System", "System\\.(?!arraycopy\\()", code);
        none("Arrays", "Arrays\\.(?!(fill|copyOf|copyOfRange)\\()", code);
        none("array of two dimensions of objects", "[A-Z]\\w+\\[\\]\\[\\]", code);
    }

    /** The rules say "some twelve", "some twenty" and "some sixty": what is clearly above them is told. */
    private static void classes(String code) {
        String[] parts = code.split("\\bclass (?=\\w)");
        Check.same("some twelve classes", true, parts.length - 1 <= 14);
        for (int i = 1; i < parts.length; i++) {
            String name = parts[i].split("\\W")[0];
            String indent = i == 1 ? "    " : "        ";
            Matcher field = Pattern.compile("(?m)^" + indent + "(?:private |final )*[\\w\\[\\]]+ \\w+( = [^;]*)?;").matcher(parts[i]);
            int fields = 0;
            while (field.find()) {
                fields++;
            }
            Check.same("some twenty fields in " + name + ": " + fields, true, fields <= 24);
            none("public class inside", "public[\\w ]*$", i == 1 ? "" : parts[i - 1]);
        }
    }

    private static void methods(String code) {
        String[] lines = code.split("\n");
        int start = -1;
        int methods = 0;
        for (int i = 0; i < lines.length; i++) {
            String line = lines[i];
            if (line.matches("( {4}| {8})[\\w\\[\\]<> ]*\\w+\\(.*") && !line.contains("=") && !line.contains(";")) {
                start = i;
                methods++;
                Check.same("at most seven parameters: " + line.trim(), true, line.split(",").length <= 7);
            }
            if (start >= 0 && line.matches("( {4}| {8})}") && line.indexOf('}') == indent(lines[start])) {
                Check.same("some sixty lines: " + lines[start].trim(), true, i - start <= 70);
                start = -1;
            }
        }
        Check.same("methods were found", true, methods > 60);
    }

    private static int indent(String line) {
        return line.length() - line.stripLeading().length();
    }
}
