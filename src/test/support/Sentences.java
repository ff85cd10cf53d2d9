import java.io.IOException;
import java.nio.file.Files;
import java.nio.file.Path;
import java.util.ArrayList;
import java.util.LinkedHashMap;
import java.util.List;
import java.util.Map;

/** The sentences of the document that a test is about, in the document's own words. */
final class Sentences {
    private static final Path DOCUMENT = Path.of("..", "shared", "DOC.md");
    private static final Map<String, List<String>> QUOTES = new LinkedHashMap<>();

    private Sentences() {
    }

    /** The answers looked at from now on are about these words below that heading. */
    static void of(String heading, String words) {
        Check.about(heading + ": \"" + words + "\"");
        QUOTES.computeIfAbsent(heading, key -> new ArrayList<>()).add(words);
    }

    /**
     * Looks whether the words stand in the document, and whether each sentence below the headings
     * that have tests has one: a sentence that is new there, or has other words, is found by that.
     */
    static void end() {
        if (!Files.exists(DOCUMENT)) {
            System.out.println(DOCUMENT + " isn't here: the words of the tests weren't looked up");
            Check.end();
            return;
        }
        Check.about("the document");
        for (String line : lines()) {
            if (line.startsWith("## Promise ")) {
                Check.same("tests of " + line, "true", "" + QUOTES.containsKey(line.substring(3)));
            }
        }
        for (Map.Entry<String, List<String>> entry : QUOTES.entrySet()) {
            List<String> sentences = below(entry.getKey());
            for (String words : entry.getValue()) {
                boolean stands = sentences.stream().anyMatch(each -> each.contains(words));
                Check.same(entry.getKey() + " says " + words, "true", "" + stands);
            }
            for (String sentence : sentences) {
                boolean tested = entry.getValue().stream().anyMatch(sentence::contains);
                Check.same(entry.getKey() + " has a test of " + sentence, "true", "" + tested);
            }
        }
        Check.end();
    }

    private static List<String> below(String heading) {
        List<String> found = new ArrayList<>();
        boolean inside = false;
        for (String line : lines()) {
            if (line.startsWith("#")) {
                inside = line.equals("## " + heading);
            } else if (inside && !line.isBlank()) {
                for (String sentence : line.split("(?<=\\.) ")) {
                    if (!isWithoutTest(sentence)) {
                        found.add(sentence);
                    }
                }
            }
        }
        return found;
    }

    /** A title, and what the interface says in its comments, are no call's answers. */
    private static boolean isWithoutTest(String sentence) {
        return sentence.equals("A message.") || sentence.startsWith("Ahead of the calls");
    }

    private static List<String> lines() {
        try {
            return Files.readAllLines(DOCUMENT);
        } catch (IOException e) {
            throw new IllegalStateException("no " + DOCUMENT + " here: " + e);
        }
    }
}
