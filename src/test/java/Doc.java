import java.io.IOException;
import java.nio.file.Files;
import java.nio.file.Path;
import java.util.ArrayList;
import java.util.LinkedHashMap;
import java.util.List;
import java.util.Map;

/**
 * The document. A group of checks says first for which of its words it stands; they must stand there, and in the
 * end every clause of the document but those that name nothing that could break must have been said.
 */
final class Doc {
    private static final Path FILE = Path.of("../shared/DOC.md");

    // words that a test could not hold against an answer, and what another clause says with its numbers
    private static final String[] NOTHING_TO_BREAK = {
        "(Setup text|Records|Aligning|Overtaking|Failure)\\.", "[1-6a-h][.:]", "The constants:", "Exceptions:",
        "The constructor and the methods follow, a promise each:", "the signature, then what it does\\.",
        "A tick has these phases;", "- `[^`]*`:", "(the )?(number|index) of (a|an|the) [a-z]+", "the new length", "whether (it overtakes|they overtake)",
        "Returns (the|its|a|number) ?[^0-9]*[.;]", "Returns true;", "A new object", "Forecasts a checkpoint:"};

    private static final Map<String, String> PLACES = read();
    private static final Map<String, List<String>> SAID = new LinkedHashMap<>();
    private static String latest = "";
    private static int madeBefore = -1;

    private Doc() {
    }

    /** The checks that follow stand for these words, in "section 1" to "promise 44", "exceptions" or "constants". */
    static void says(String place, String words) {
        lookBack();
        latest = place + ": " + words;
        madeBefore = Check.made();
        Check.under("");
        if (!PLACES.isEmpty()) {
            String text = PLACES.getOrDefault(place, "").replace('\n', ' ');
            Check.due(place + " says '" + words + "'", true, () -> text.contains(words));
            madeBefore++;
        }
        SAID.computeIfAbsent(place, p -> new ArrayList<>()).add(words);
        Check.under(latest + ": ");
    }

    private static void lookBack() {
        Check.under("");
        int made = Check.made() - madeBefore;
        if (madeBefore >= 0) {
            Check.due("a check of '" + latest + "'", true, () -> made > 0);
        }
    }

    /** Every clause that could be broken was said. */
    static void end() {
        lookBack();
        if (PLACES.isEmpty()) {
            System.out.println(FILE + " is not there: nothing was held against it");
        }
        PLACES.forEach((place, text) -> {
            if (place.matches("(section|promise|exceptions|constants).*")) {
                for (String line : text.split("\n")) {
                    endOfLine(place, line);
                }
            }
        });
    }

    private static void endOfLine(String place, String line) {
        if (line.startsWith("`") || line.startsWith("#") || line.startsWith("----")) {
            return;
        }
        for (String clause : line.split("(?<=[.;:])\\s+")) {
            if (!clause.isEmpty() && couldBreak(clause)) {
                Check.due("a test of " + place + ": '" + clause + "'", true, () -> wasSaid(place, clause));
            }
        }
    }

    private static boolean couldBreak(String clause) {
        for (String pattern : NOTHING_TO_BREAK) {
            if (clause.matches(pattern) && !clause.contains("NONE")) {
                return false;
            }
        }
        return true;
    }

    private static boolean wasSaid(String place, String clause) {
        for (String words : SAID.getOrDefault(place, List.of())) {
            if (words.contains(clause) || clause.contains(words)) {
                return true;
            }
        }
        return false;
    }

    private static Map<String, String> read() {
        Map<String, String> places = new LinkedHashMap<>();
        if (!Files.isReadable(FILE)) {
            return places;
        }
        try {
            String place = "";
            for (String line : Files.readAllLines(FILE)) {
                place = placeOf(line, place);
                places.merge(place, line.trim(), (a, b) -> a + "\n" + b);
            }
        } catch (IOException e) {
            throw new IllegalStateException(e);
        }
        return places;
    }

    private static String placeOf(String line, String before) {
        if (line.startsWith("## Promise ")) {
            return "promise " + line.substring(11, line.indexOf(':'));
        }
        if (line.startsWith("## ")) {
            return line.substring(3);
        }
        if (line.matches("[1-6]\\. [A-Z].*")) {
            return "section " + line.charAt(0);
        }
        if (line.startsWith("Exceptions:")) {
            return "exceptions";
        }
        return line.startsWith("The constants:") ? "constants" : before;
    }
}
