import java.io.IOException;
import java.lang.reflect.Constructor;
import java.lang.reflect.Field;
import java.lang.reflect.Member;
import java.lang.reflect.Method;
import java.lang.reflect.Modifier;
import java.nio.file.Files;
import java.nio.file.Path;
import java.util.ArrayList;
import java.util.Collections;
import java.util.List;
import java.util.regex.Matcher;
import java.util.regex.Pattern;

/** The class has the document's public face, and no other member that others can see. Run at the project's root. */
public final class FaceTest {
    private static final String INDEX = "IndexOutOfBoundsException";
    private static final String ARGUMENT = "IllegalArgumentException";
    private static final String STATE = "IllegalStateException";

    private static final Path DOCUMENT = Path.of("../shared/DOC.md");
    private static final Path SOURCE = Path.of("src/main/java/MapSongs.java");
    private static final Pattern PART = Pattern.compile("Ahead of the calls (.*) the interface says: (---- .*)\\.");

    private static final String[] FACE = {
        "int addLeg(int,int,int) " + ARGUMENT + " " + STATE,
        "int strikeLeg() " + STATE,
        "int bend(int,int) " + INDEX + " " + ARGUMENT,
        "int setWord(int,int) " + INDEX + " " + ARGUMENT,
        "int setStep(int) " + ARGUMENT,
        "int legs()",
        "int step()",
        "int endX()",
        "int endY()",
        "int stepsHome()",
        "int returns()",
        "int turnOf(int) " + INDEX,
        "int headingOf(int) " + INDEX,
        "int landmarkOf(int) " + INDEX,
        "int noteOf(int) " + INDEX,
        "boolean isFolded(int) " + INDEX,
        "int wordIn(int) " + INDEX,
        "int wordOf(int) " + INDEX,
        "int beats()",
        "int folded()",
        "int range()",
        "int sungWith(int) " + INDEX,
        "int readings(int) " + INDEX,
        "int rightReading(int) " + INDEX,
        "boolean isAmbiguous(int) " + INDEX,
        "boolean isMended(int) " + INDEX,
        "int mend(int) " + INDEX + " " + STATE,
        "int mendTo(int) " + ARGUMENT,
        "int ambiguous()",
        "long ways()",
        "int firstAmbiguous()",
        "int ambiguousWith(int,int) " + INDEX,
        "int bestWord(int) " + INDEX,
        "int bestStep()",
        "double meanNote()",
        "long digest()",
    };

    public static void main(String[] args) throws IOException {
        Check.due("MapSongs is public and final", true,
            MapSongs.class.getModifiers() == (Modifier.PUBLIC | Modifier.FINAL));
        methods();
        constructors();
        for (Field field : MapSongs.class.getDeclaredFields()) {
            Check.due("field " + field.getName() + " is private", true, isPrivate(field));
        }
        String document = Files.readString(DOCUMENT);
        String source = Files.readString(SOURCE);
        declaredAsInTheDocument(document, source);
        underTheirParts(document, source);
        Check.end("FaceTest");
    }

    private static void methods() {
        List<String> want = new ArrayList<>(List.of(FACE));
        List<String> got = new ArrayList<>();
        List<String> publicNames = new ArrayList<>();
        for (Method method : MapSongs.class.getDeclaredMethods()) {
            if (!isPrivate(method)) {
                got.add(signature(method));
                publicNames.add(method.getName());
                Check.due(method.getName() + " is plainly public", true, method.getModifiers() == Modifier.PUBLIC);
            }
        }
        for (Method method : MapSongs.class.getDeclaredMethods()) {
            if (isPrivate(method)) {
                Check.due("private " + method.getName() + " bears a public name", false,
                    publicNames.contains(method.getName()));
            }
        }
        Collections.sort(want);
        Collections.sort(got);
        Check.dueText("the face", String.join("\n", want), String.join("\n", got));
    }

    private static void constructors() {
        Constructor<?>[] all = MapSongs.class.getDeclaredConstructors();
        Check.due("constructors", 1, all.length);
        Check.due("it is public", true, Modifier.isPublic(all[0].getModifiers()));
        Check.due("its parameters", 0, all[0].getParameterCount());
    }

    /** Each line of the document's face stands in the source, word for word, and in the same order. */
    private static void declaredAsInTheDocument(String document, String source) {
        String face = document.substring(document.indexOf("```java") + 7, document.indexOf("```\n"));
        int from = 0;
        int count = 0;
        for (String line : face.strip().split("\n")) {
            if (line.endsWith(";")) {
                String head = line.substring(0, line.length() - 1) + " {";
                int at = source.indexOf(head, from);
                Check.due("'" + head + "' stands behind the line ahead of it", true, at >= 0);
                from = Math.max(at, from);
                count++;
            }
        }
        Check.due("the constructor and the calls of the face", FACE.length + 1, count);
    }

    /** Each call stands under the part that the document says ahead of it. */
    private static void underTheirParts(String document, String source) {
        Matcher part = PART.matcher(document);
        int count = 0;
        while (part.find()) {
            for (String quoted : part.group(1).split(", ")) {
                String name = quoted.replace("`", "");
                Matcher call = Pattern.compile("\n    public \\w+ " + name + "\\(").matcher(source);
                boolean found = call.find();
                Check.due(name + " is in the source", true, found);
                Check.dueText("the part of " + name, part.group(2), found ? partAt(source, call.start()) : "none");
                count++;
            }
        }
        Check.due("calls with a part", FACE.length, count);
    }

    private static String partAt(String source, int place) {
        int from = source.lastIndexOf("// ----", place);
        return from < 0 ? "none" : source.substring(from + 3, source.indexOf('\n', from));
    }

    private static boolean isPrivate(Member member) {
        return Modifier.isPrivate(member.getModifiers());
    }

    private static String signature(Method method) {
        List<String> parameters = new ArrayList<>();
        for (Class<?> type : method.getParameterTypes()) {
            parameters.add(type.getSimpleName());
        }
        StringBuilder text = new StringBuilder();
        text.append(method.getReturnType().getSimpleName()).append(' ').append(method.getName());
        text.append('(').append(String.join(",", parameters)).append(')');
        for (Class<?> type : method.getExceptionTypes()) {
            text.append(' ').append(type.getSimpleName());
        }
        return text.toString();
    }
}
