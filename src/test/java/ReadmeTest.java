import java.io.IOException;
import java.lang.reflect.Method;
import java.nio.file.Files;
import java.nio.file.Path;
import java.util.ArrayList;
import java.util.List;
import java.util.regex.Matcher;
import java.util.regex.Pattern;

/** README.md's example answers as it says, and its list of calls is the class's. Run at the project's root. */
public final class ReadmeTest {
    private static final Path README = Path.of("README.md");
    private static final Pattern EXAMPLE = Pattern.compile("```java\nMapSongs song = new MapSongs\\(\\);\n(.*?)```",
        Pattern.DOTALL);
    private static final Pattern LINE = Pattern.compile("song\\.(\\w+)\\(([-0-9, ]*)\\); +// (-?\\d+)(:.*)?");
    private static final Pattern CALLS = Pattern.compile("The calls, by .*?\n\n(.*?)\n\n", Pattern.DOTALL);
    private static final Pattern CALL = Pattern.compile("`(\\w+)`");

    public static void main(String[] args) throws IOException, ReflectiveOperationException {
        String text = Files.readString(README);
        exampleAnswers(text);
        everyCallIsNamed(text);
        Check.end("ReadmeTest");
    }

    private static void exampleAnswers(String text) throws ReflectiveOperationException {
        Matcher example = EXAMPLE.matcher(text);
        Check.due("there is an example", true, example.find());
        MapSongs song = new MapSongs();
        for (String line : example.group(1).split("\n")) {
            Matcher call = LINE.matcher(line);
            boolean isCall = call.matches();
            Check.due("'" + line + "' is a call and its answer", true, isCall);
            if (isCall) {
                long answer = answer(song, call.group(1), call.group(2));
                Check.due(line, Long.parseLong(call.group(3)), answer);
            }
        }
    }

    private static long answer(MapSongs song, String name, String numbers) throws ReflectiveOperationException {
        List<Object> given = new ArrayList<>();
        List<Class<?>> types = new ArrayList<>();
        for (String number : numbers.isEmpty() ? new String[0] : numbers.split(", ")) {
            given.add(Integer.valueOf(number));
            types.add(int.class);
        }
        Method method = MapSongs.class.getMethod(name, types.toArray(new Class<?>[0]));
        return ((Number) method.invoke(song, given.toArray())).longValue();
    }

    private static void everyCallIsNamed(String text) {
        Matcher list = CALLS.matcher(text);
        Check.due("there is a list of the calls", true, list.find());
        List<String> named = new ArrayList<>();
        Matcher call = CALL.matcher(list.group(1));
        while (call.find()) {
            named.add(call.group(1));
        }
        List<String> own = new ArrayList<>();
        for (Method method : MapSongs.class.getMethods()) {
            if (method.getDeclaringClass() == MapSongs.class) {
                own.add(method.getName());
            }
        }
        named.sort(null);
        own.sort(null);
        Check.dueText("the calls that README.md names", own.toString(), named.toString());
    }
}
