import java.io.IOException;
import java.nio.file.Files;
import java.nio.file.Path;
import java.util.ArrayList;
import java.util.HashSet;
import java.util.LinkedHashMap;
import java.util.List;
import java.util.Map;
import java.util.Set;
import java.util.regex.Pattern;

/** The sentences of ../shared/DOC.md by their headings, and which of them have a test. Used at the project's root. */
final class Sentences {
    private static final Path DOCUMENT = Path.of("../shared/DOC.md");
    private static final Pattern END_OF_SENTENCE = Pattern.compile("(?<=[.;])\\s+|(?<=`:)\\s+");

    // The words by which a sentence of the document names a boundary case.
    private static final Pattern NAMES_A_BOUNDARY = Pattern.compile("Throws|an exception|exceptions|\\d to \\d"
        + "|[Aa]t most|at the most|at least|at first|begins|beginning|empty|without|there is none|more than|more\\.$"
        + "|no more|if that is|otherwise|of several|from 0|from the smallest|starts with|wraps around|nothing is changed"
        + "|no verse|ahead of the first");

    private static final Map<String, List<String>> BY_HEADING = new LinkedHashMap<>();
    private static final Set<String> TESTED = new HashSet<>();

    private Sentences() {
    }

    static void read() throws IOException {
        String heading = "";
        for (String line : Files.readAllLines(DOCUMENT)) {
            if (line.startsWith("## ")) {
                heading = line.substring(3).replaceFirst(":.*", "");
            } else {
                for (String sentence : END_OF_SENTENCE.split(line.strip())) {
                    BY_HEADING.computeIfAbsent(heading, key -> new ArrayList<>()).add(sentence);
                }
            }
        }
    }

    /** What follows in the calling test is a test of the sentence under this heading that holds these words. */
    static void test(String heading, String words) {
        Check.about(heading + " '" + words + "'");
        boolean found = false;
        for (String sentence : BY_HEADING.getOrDefault(heading, List.of())) {
            if (sentence.contains(words)) {
                TESTED.add(heading + ": " + sentence);
                found = true;
            }
        }
        Check.due("the document says so", true, found);
    }

    static void allWithBoundariesAreTested() {
        Check.about("../shared/DOC.md");
        int count = 0;
        for (String heading : BY_HEADING.keySet()) {
            for (String sentence : BY_HEADING.get(heading)) {
                if (binds(heading) && NAMES_A_BOUNDARY.matcher(sentence).find()) {
                    count++;
                    Check.due("a test of '" + heading + ": " + sentence + "'", true,
                        TESTED.contains(heading + ": " + sentence));
                }
            }
        }
        Check.due("sentences with boundaries were found", true, count > 0);
    }

    private static boolean binds(String heading) {
        return heading.equals("What it is") || heading.equals("Terms") || heading.startsWith("Promise ");
    }
}
