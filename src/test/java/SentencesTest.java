import java.lang.reflect.Method;
import java.nio.file.Files;
import java.nio.file.Path;
import java.util.ArrayList;
import java.util.LinkedHashMap;
import java.util.List;
import java.util.Map;

/**
 * Looks up the words of each test in the document, and that no sentence of the Terms, and no row of
 * a promise, is without a test.
 */
public final class SentencesTest {

    private static final Class<?>[] TESTS = {
        ThingsEdgeTest.class, EventsEdgeTest.class, InstructionsEdgeTest.class,
        ResourcesEdgeTest.class, StoresEdgeTest.class, CountsEdgeTest.class, AskingEdgeTest.class,
        TalliesEdgeTest.class, AheadEdgeTest.class, RefusalEdgeTest.class,
    };
    /** Rows of the Terms that tell how to read the others, and name nothing that a call answers. */
    private static final String[] READING = {
        "All numbers are whole, if nothing else is said.", "/ is cut towards 0.",
        "the interface says: ----", "3 INSTRUCTIONS, by their codes:",
    };

    private SentencesTest() {
    }

    public static void main(String[] args) throws Exception {
        Map<String, String> parts = parts(Files.readString(Path.of("../shared/DOC.md")));
        List<Says> told = told(parts);
        for (Map.Entry<String, String> part : parts.entrySet()) {
            if (part.getKey().startsWith("Promise ")) {
                rows(part.getKey(), part.getValue(), told);
            } else if (part.getKey().equals("Terms")) {
                sentences(part.getValue(), told);
            }
        }
        System.out.println(told.size() + " tests, each of one sentence");
        Check.end();
    }

    // ---- the document

    /** The text of each part of the document by its name, in one line. */
    private static Map<String, String> parts(String document) {
        Map<String, String> parts = new LinkedHashMap<>();
        for (String section : document.split("\n## ")) {
            String name = section.split("[\n:]")[0];
            parts.put(name, oneLine(section));
        }
        String terms = document.substring(document.indexOf("\n1 WHAT THERE IS."),
                document.indexOf("\nA method that throws an exception"));
        for (String section : terms.split("\n(?=[1-6] [A-Z ]+[.,] )")) {
            if (!section.isBlank()) {
                parts.put("Terms " + section.strip().charAt(0), oneLine(section));
            }
        }
        Check.due("parts of the document that have a name", 44 + 6 + 5, parts.size());
        return parts;
    }

    private static String oneLine(String text) {
        return text.replaceAll("```(text|java)?", " ").replaceAll("\\s+", " ").strip();
    }

    // ---- the tests

    /** What each test says, with the words of it looked up. */
    private static List<Says> told(Map<String, String> parts) {
        List<Says> told = new ArrayList<>();
        for (Class<?> tests : TESTS) {
            for (Method test : tests.getDeclaredMethods()) {
                Says says = test.getAnnotation(Says.class);
                if (says != null) {
                    told.add(says);
                    String part = parts.getOrDefault(says.part(), "");
                    Check.due(says.part() + " has the words '" + says.words() + "'", 1,
                            part.contains(says.words()) ? 1 : 0);
                }
            }
        }
        return told;
    }

    /** Whether a test of this part stands for the text, or for some of it, or for more. */
    private static boolean isTold(String part, String text, List<Says> told) {
        for (Says says : told) {
            boolean isOfPart = part.equals("Terms") ? says.part().startsWith(part)
                    : says.part().equals(part);
            if (isOfPart && (says.words().contains(text) || text.contains(says.words()))) {
                return true;
            }
        }
        return false;
    }

    // ---- nothing is left out

    /** Each thing that a row of a promise tells, or for which it throws, one by one. */
    private static void rows(String promise, String text, List<Says> told) {
        String rows = text.substring(text.indexOf("`: ") >= 0 ? text.indexOf("`: ") : 0);
        for (String row : rows.split("(?=Throws `)|(?=Returns )|(?= - `)")) {
            if (row.startsWith("Throws `")) {
                String reasons = row.substring(row.indexOf(" if ") + 4);
                for (String reason : reasons.split("; |, or ")) {
                    due(promise, reason.strip(), told);
                }
            } else if (row.startsWith("Returns ")) {
                due(promise, row.strip(), told);
            }
        }
    }

    /** Each sentence of the Terms, behind the summary that they begin with. */
    private static void sentences(String terms, List<Says> told) {
        String sentences = terms.substring(terms.indexOf("All numbers are whole"));
        for (String sentence : sentences.split("(?<=[.:)]) (?=[A-Z0-9(/])|; ")) {
            boolean isReading = sentence.strip().matches("[1-6] [A-Z ]+\\.");
            for (String words : READING) {
                isReading |= sentence.contains(words);
            }
            if (!isReading) {
                due("Terms", sentence.strip(), told);
            }
        }
    }

    private static void due(String part, String text, List<Says> told) {
        Check.due("a test of " + part + " for '" + text + "'", 1, isTold(part, text, told) ? 1 : 0);
    }
}
