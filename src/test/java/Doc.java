import java.io.IOException;
import java.nio.file.Files;
import java.nio.file.Path;
import java.util.ArrayList;
import java.util.HashSet;
import java.util.LinkedHashMap;
import java.util.List;
import java.util.Map;
import java.util.Set;
import java.util.regex.Matcher;
import java.util.regex.Pattern;

/** The document: its sentences, heading by heading, which of them the edge tests are about, and its public face. */
final class Doc {
    private static final Path PLACE = Path.of("../shared/DOC.md");
    private static final Pattern GROUP = Pattern.compile("Ahead of the calls (.*) the interface says: ---- (.*)\\.");
    private static final Pattern CALL = Pattern.compile("`([^`]*\\)[^`]*)`: .*");
    private static final Map<String, List<String>> SENTENCES = new LinkedHashMap<>();
    private static final Map<String, List<String>> GROUPS = new LinkedHashMap<>();
    private static final List<String> FACE = new ArrayList<>();
    private static final List<String> PROMISED = new ArrayList<>();
    private static final Set<String> QUOTED = new HashSet<>();

    private Doc() {
    }

    /** From here on the checks are about this sentence, or part of a sentence, of a promise. */
    static void about(int promise, String quote) {
        about("Promise " + promise, quote);
    }

    /** The same of one of the terms' sections 1 to 5. */
    static void section(int section, String quote) {
        about("Section " + section, quote);
    }

    static void about(String heading, String quote) {
        Check.about(heading + ", \"" + quote + "\": ");
        boolean found = false;
        for (String sentence : SENTENCES.getOrDefault(heading, List.of())) {
            if (sentence.contains(quote)) {
                QUOTED.add(heading + ": " + sentence);
                found = true;
            }
        }
        Check.same("the quote stands in the document", true, found || SENTENCES.isEmpty());
    }

    /** Every sentence of the terms and of the promises must have been quoted. */
    static void finish() {
        Check.about("");
        if (SENTENCES.isEmpty()) {
            System.out.println(PLACE + " is not there: the quotes were not compared with it");
        }
        for (String heading : SENTENCES.keySet()) {
            for (String sentence : SENTENCES.get(heading)) {
                String whole = heading + ": " + sentence;
                Check.same("edge test of " + whole, true, QUOTED.contains(whole));
            }
        }
    }

    static void read() throws IOException {
        if (!Files.exists(PLACE)) {
            return;
        }
        String heading = "";
        boolean grammar = false;
        StringBuilder paragraph = new StringBuilder();
        for (String line : Files.readAllLines(PLACE)) {
            grammar ^= line.startsWith("```");
            boolean starts = line.isBlank() || line.startsWith("- ") || line.startsWith("#") || line.startsWith("```");
            if (starts || grammar || line.matches("\\d\\. .*")) {
                add(heading, paragraph.toString());
                paragraph.setLength(0);
            }
            if (line.startsWith("## ")) {
                heading = line.substring(3).replaceFirst(": .*", "");
            } else if (line.matches("\\d\\. .*")) {
                heading = "Section " + line.charAt(0);
            } else if (!line.isBlank() && !line.startsWith("```")) {
                paragraph.append(' ').append(line.trim());
            }
        }
        add(heading, paragraph.toString());
    }

    /** The lines of the public face, without those of the class itself; empty if the document is not there. */
    static List<String> face() {
        return FACE;
    }

    /** The constructor and the calls as the promises tell them, from the first to the last. */
    static List<String> promised() {
        return PROMISED;
    }

    /** The calls, group by group; empty if the document is not there. */
    static Map<String, List<String>> groups() {
        return GROUPS;
    }

    private static void add(String heading, String paragraph) {
        String text = paragraph.trim().replaceFirst("^- ", "");
        Matcher group = GROUP.matcher(text);
        if (heading.equals("The public face") && text.endsWith(";")) {
            FACE.add(text);
        }
        if (group.matches()) {
            GROUPS.put(group.group(2), List.of(group.group(1).replace("`", "").split(", ")));
        }
        if (!heading.matches("What it is|Terms|Section \\d|Promise \\d+") || text.isEmpty() || group.matches()) {
            return;
        }
        Matcher call = CALL.matcher(text);
        if (heading.startsWith("Promise") && call.matches()) {
            PROMISED.add(call.group(1));
            text = text.substring(call.end(1) + 3);
        }
        SENTENCES.computeIfAbsent(heading, key -> new ArrayList<>())
            .addAll(List.of(text.split("(?<=\\.) (?=[A-Z]|load\\(\\))")));
    }
}
