import java.io.IOException;
import java.nio.charset.StandardCharsets;
import java.nio.file.Files;
import java.nio.file.Path;
import java.util.ArrayList;
import java.util.Comparator;
import java.util.LinkedHashMap;
import java.util.List;
import java.util.Map;

/** The sentences of the document, each with a test of its own, by the document's sections. */
final class Sentences {
    interface Test {
        void run();
    }

    // What stands in the section "Description" beside its sentences.
    private static final String[] HEADS = {"Platform.", "Hypotheses.", "Tests.", "Values.", "Trials.",
        "Supporters and sessions.", "Undo.", "Exceptions.", "The constants:",
        "Examples: Each of them begins with a new object; the results are given behind the calls.",
        "The constructor and the methods follow, a promise each: the signature, then what it does."};

    private final Check check;
    private final Map<String, List<String>> told = new LinkedHashMap<>();
    private String section = "";

    Sentences(Check check) {
        this.check = check;
    }

    void section(String heading) {
        section = heading;
        told.computeIfAbsent(section, key -> new ArrayList<>());
    }

    void says(String sentence, Test test) {
        told.get(section).add(sentence);
        check.about(section + " says \"" + sentence + "\"");
        int before = check.asked();
        try {
            test.run();
        } catch (RuntimeException e) {
            check.fail("threw " + e);
        }
        check.due("the sentence is asked", check.asked() > before, true);
    }

    /** Each sentence stands in its section, and but for them nothing does. */
    void compareWith(Path document) throws IOException {
        check.about("the document");
        Map<String, String> sections = sectionsOf(Files.readString(document, StandardCharsets.UTF_8));
        for (Map.Entry<String, List<String>> entry : told.entrySet()) {
            String heading = entry.getKey();
            check.due("has a section " + heading, sections.containsKey(heading), true);
            String rest = without(sections.getOrDefault(heading, ""), heading, entry.getValue());
            boolean whole = heading.equals("What it is") || rest.isEmpty();
            check.due("the sentences of " + heading + " are all asked, but for \"" + rest + "\"", whole, true);
        }
        for (String heading : sections.keySet()) {
            check.due("the section " + heading + " is asked", told.containsKey(heading) || !heading.startsWith("Promise"), true);
        }
    }

    private String without(String text, String heading, List<String> sentences) {
        List<String> longestFirst = new ArrayList<>(sentences);
        longestFirst.sort(Comparator.comparing(String::length).reversed());
        String rest = text;
        for (String sentence : longestFirst) {
            int at = rest.indexOf(sentence);
            check.due(heading + " says \"" + sentence + "\"", at >= 0, true);
            rest = at < 0 ? rest : rest.substring(0, at) + rest.substring(at + sentence.length());
        }
        if (heading.equals("Description")) {
            for (String head : HEADS) {
                rest = rest.replace(head, "");
            }
        }
        return rest.replace("-", "").replaceAll("\\s+", " ").trim();
    }

    /** The sections by their headings, without signatures and the lines that name a part of the class. */
    private static Map<String, String> sectionsOf(String document) {
        Map<String, String> sections = new LinkedHashMap<>();
        for (String part : document.split("(?m)^## ")) {
            String[] lines = part.split("\n");
            StringBuilder text = new StringBuilder();
            for (int i = 1; i < lines.length; i++) {
                boolean isSignature = lines[0].startsWith("Promise") && lines[i].startsWith("`");
                if (!isSignature && !lines[i].startsWith("---- ")) {
                    text.append(lines[i]).append(' ');
                }
            }
            sections.put(lines[0].trim(), text.toString());
        }
        return sections;
    }
}
