import java.io.IOException;
import java.nio.file.Files;
import java.nio.file.Path;
import java.util.ArrayList;
import java.util.LinkedHashMap;
import java.util.LinkedHashSet;
import java.util.List;
import java.util.Map;
import java.util.Set;
import java.util.regex.Matcher;
import java.util.regex.Pattern;

/** The sentences of the document, and which of them have been tested. */
final class Sentences {
    /** Sentences that name no boundary case of their own: titles, and what only says what a number is. */
    private static final Set<String> PLAIN = Set.of(
            "Area.", "Links.", "Poses.", "Moves.", "Planning.", "Obstacles.", "Text.", "History.", "Exceptions.",
            "The constructor and the methods follow, a promise each: the signature, then what it does.",
            "x: the coordinate x", "y: the coordinate y", "Returns a count.", "Returns the count.",
            "Returns a number of a joint or its link.", "Returns the number.", "Returns a coordinate of an obstacle.",
            "Returns the coordinate.", "Returns a coordinate of the tip.", "Returns the set of moves.",
            "Returns the set of links.", "Returns the first fault of the present pose.", "Returns the clearance.",
            "Returns the winding.", "Returns a value of a pose.", "Returns the value of the joint.",
            "Returns the number of groups.", "Returns the average.", "Returns a move of the path.",
            "Returns the move.", "Returns the number of cells.", "Returns the error position.");

    final Checks checks = new Checks();
    private final Map<String, Set<String>> document = new LinkedHashMap<>();
    private final Map<String, Set<String>> tested = new LinkedHashMap<>();
    private final List<String> faults = new ArrayList<>();
    private String part = "";

    Sentences() throws IOException {
        String text = Files.readString(Path.of("../shared/DOC.md"));
        String body = text.substring(text.indexOf("## Description"), text.indexOf("## Not promised"));
        String section = "";
        for (String paragraph : body.split("\\n\\s*\\n|\\n(?=- )")) {
            Matcher title = Pattern.compile("## (?:Promise )?(\\w+).*").matcher(paragraph.strip());
            if (title.matches()) {
                section = title.group(1);
            } else if (!paragraph.strip().startsWith("----") && !paragraph.strip().matches("`.*\\(.*`")) {
                document.computeIfAbsent(section, k -> new LinkedHashSet<>()).addAll(sentencesOf(paragraph));
            }
        }
    }

    private static List<String> sentencesOf(String paragraph) {
        String line = paragraph.strip().replaceAll("\\s+", " ").replaceAll("^- |`", "");
        return List.of(line.split("(?<=\\.) (?=[A-Z])"));
    }

    /** The next sentences are those of a promise. */
    void promise(int number) {
        part = String.valueOf(number);
    }

    void description() {
        part = "Description";
    }

    /** A sentence of the document, and the test that is its own. */
    void test(String sentence, Runnable test) {
        if (!document.getOrDefault(part, Set.of()).contains(sentence)) {
            faults.add("not in the document: " + part + ", " + sentence);
        }
        if (!tested.computeIfAbsent(part, k -> new LinkedHashSet<>()).add(sentence)) {
            faults.add("tested twice: " + part + ", " + sentence);
        }
        int before = checks.made();
        checks.head(part + ", \"" + sentence + "\": ");
        test.run();
        checks.head("");
        if (checks.made() == before) {
            faults.add("a test without a check: " + part + ", " + sentence);
        }
    }

    /** Every sentence has its test, but for the plain ones. */
    void end() {
        for (String section : document.keySet()) {
            for (String sentence : document.get(section)) {
                if (!PLAIN.contains(sentence) && !tested.getOrDefault(section, Set.of()).contains(sentence)) {
                    faults.add("not tested: " + section + ", " + sentence);
                }
            }
        }
        faults.forEach(System.out::println);
        checks.due("the sentences, tests that are not as they should be", faults::size, 0);
        checks.due("the sentences, promises in the document", () -> document.size() - 1, 49);
        checks.end();
    }
}
