import java.lang.reflect.Constructor;
import java.lang.reflect.Field;
import java.lang.reflect.Member;
import java.lang.reflect.Method;
import java.lang.reflect.Modifier;
import java.util.ArrayList;
import java.util.Collections;
import java.util.List;

/** The class has the document's public face, and no other member that others can see. */
public final class FaceTest {
    private static final String INDEX = "IndexOutOfBoundsException";
    private static final String ARGUMENT = "IllegalArgumentException";
    private static final String STATE = "IllegalStateException";

    private static final String[] FACE = {
        "int addLeg(int,int,int) " + ARGUMENT + " " + STATE,
        "int strikeLeg() " + STATE,
        "int bend(int,int) " + INDEX + " " + ARGUMENT,
        "int setWord(int,int) " + INDEX + " " + ARGUMENT,
        "int setStep(int) " + ARGUMENT,
        "int legs()",
        "int step()",
        "int endX()",
        "int endY()",
        "int stepsHome()",
        "int returns()",
        "int turnOf(int) " + INDEX,
        "int headingOf(int) " + INDEX,
        "int landmarkOf(int) " + INDEX,
        "int noteOf(int) " + INDEX,
        "boolean isFolded(int) " + INDEX,
        "int wordIn(int) " + INDEX,
        "int wordOf(int) " + INDEX,
        "int beats()",
        "int folded()",
        "int range()",
        "int sungWith(int) " + INDEX,
        "int readings(int) " + INDEX,
        "int rightReading(int) " + INDEX,
        "boolean isAmbiguous(int) " + INDEX,
        "boolean isMended(int) " + INDEX,
        "int mend(int) " + INDEX + " " + STATE,
        "int mendTo(int) " + ARGUMENT,
        "int ambiguous()",
        "long ways()",
        "int firstAmbiguous()",
        "int ambiguousWith(int,int) " + INDEX,
        "int bestWord(int) " + INDEX,
        "int bestStep()",
        "double meanNote()",
        "long digest()",
    };

    public static void main(String[] args) {
        Check.due("MapSongs is public and final", true,
            MapSongs.class.getModifiers() == (Modifier.PUBLIC | Modifier.FINAL));
        methods();
        constructors();
        for (Field field : MapSongs.class.getDeclaredFields()) {
            Check.due("field " + field.getName() + " is private", true, isPrivate(field));
        }
        Check.end("FaceTest");
    }

    private static void methods() {
        List<String> want = new ArrayList<>(List.of(FACE));
        List<String> got = new ArrayList<>();
        List<String> publicNames = new ArrayList<>();
        for (Method method : MapSongs.class.getDeclaredMethods()) {
            if (!isPrivate(method)) {
                got.add(signature(method));
                publicNames.add(method.getName());
                Check.due(method.getName() + " is plainly public", true, method.getModifiers() == Modifier.PUBLIC);
            }
        }
        for (Method method : MapSongs.class.getDeclaredMethods()) {
            if (isPrivate(method)) {
                Check.due("private " + method.getName() + " bears a public name", false,
                    publicNames.contains(method.getName()));
            }
        }
        Collections.sort(want);
        Collections.sort(got);
        Check.dueText("the face", String.join("\n", want), String.join("\n", got));
    }

    private static void constructors() {
        Constructor<?>[] all = MapSongs.class.getDeclaredConstructors();
        Check.due("constructors", 1, all.length);
        Check.due("it is public", true, Modifier.isPublic(all[0].getModifiers()));
        Check.due("its parameters", 0, all[0].getParameterCount());
    }

    private static boolean isPrivate(Member member) {
        return Modifier.isPrivate(member.getModifiers());
    }

    private static String signature(Method method) {
        List<String> parameters = new ArrayList<>();
        for (Class<?> type : method.getParameterTypes()) {
            parameters.add(type.getSimpleName());
        }
        StringBuilder text = new StringBuilder();
        text.append(method.getReturnType().getSimpleName()).append(' ').append(method.getName());
        text.append('(').append(String.join(",", parameters)).append(')');
        for (Class<?> type : method.getExceptionTypes()) {
            text.append(' ').append(type.getSimpleName());
        }
        return text.toString();
    }
}
