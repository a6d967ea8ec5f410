import java.io.IOException;
import java.nio.file.Files;
import java.nio.file.Path;
import java.util.regex.Matcher;
import java.util.regex.Pattern;

/** The source keeps to those rules of ../shared/LANGUAGE.md that its text shows. Run at the project's root. */
public final class LanguageTest {
    private static final Path SOURCE = Path.of("src/main/java/MapSongs.java");
    private static final int LONGEST_METHOD = 60;
    private static final int MOST_PARAMETERS = 7;

    private static final String[] RULED_OUT = {
        "\\bpackage\\b", "\\bimport\\b", "->", "::", "\\bcatch\\b", "\\bfinally\\b", "\\bsynchronized\\b",
        "\\bassert\\b", "\\btry\\b", "\\bprotected\\b", "\\bObject\\b", "\\bSystem\\.(?!arraycopy)", "\\bThread\\b",
        "Exact\\(", "\\bstatic \\{", "\\brandom\\b", "\\bhashCode\\b", "\\btoString\\b", "\\bequals\\b",
    };

    // What may be made: rows of the object's own, and exceptions with a written text.
    private static final Pattern MADE = Pattern.compile("new ([^;]*);");
    private static final Pattern MAY_BE_MADE = Pattern.compile("(int|boolean)\\[MOST_LEGS]|int\\[LANDMARKS]"
        + "|(IllegalState|IllegalArgument|IndexOutOfBounds)Exception\\(\"[^\"]*\"\\)");

    public static void main(String[] args) throws IOException {
        String source = Files.readString(SOURCE).replaceAll("//.*|/\\*\\*.*\\*/", "");
        for (String ruledOut : RULED_OUT) {
            Check.due("'" + ruledOut + "' is in the source", false, Pattern.compile(ruledOut).matcher(source).find());
        }
        Matcher made = MADE.matcher(source);
        while (made.find()) {
            Check.due("new " + made.group(1) + " may be made", true, MAY_BE_MADE.matcher(made.group(1)).matches());
        }
        Check.due("all signs are 1 to 127", true, source.chars().allMatch(c -> c >= 1 && c <= 127));
        methodsAreShort(source);
        Check.end("LanguageTest");
    }

    private static void methodsAreShort(String source) {
        Matcher method = Pattern.compile("\n    \\w[^\n;=]*\\(([^\n)]*)\\)[^\n;]*\\{\n(.*?)\n    }\n", Pattern.DOTALL)
            .matcher(source);
        int count = 0;
        while (method.find()) {
            count++;
            String head = method.group().strip().lines().findFirst().orElse("");
            Check.due(head + " is short", true, method.group(2).lines().count() <= LONGEST_METHOD);
            Check.due(head + " takes few", true, method.group(1).split(",").length <= MOST_PARAMETERS);
        }
        Check.due("methods of the face were found", true, count >= 37);
    }
}
