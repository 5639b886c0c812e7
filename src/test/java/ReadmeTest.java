import java.io.IOException;
import java.lang.reflect.Method;
import java.lang.reflect.Modifier;
import java.nio.file.Files;
import java.nio.file.Path;
import java.util.Arrays;
import java.util.Map;
import java.util.regex.Matcher;
import java.util.regex.Pattern;

/** What README.md says of calls is so: its example answers as told there, and it names every call of the face. */
public final class ReadmeTest {
    private static final Map<String, Integer> NAMED = Map.of(
        "NONE", TideDebts.NONE, "BAD", TideDebts.BAD, "STATE", TideDebts.STATE, "FULL", TideDebts.FULL);

    public static void main(String[] args) throws IOException {
        String readme = Files.readString(Path.of("README.md"));
        example(readme);
        everyCallIsNamed(readme);
        Due.end();
    }

    private static void example(String readme) {
        Matcher text = Pattern.compile("String text = \"([^\"]*)\";").matcher(readme);
        Due.is("a text is told", 1, text.find() ? 1 : 0);
        TideDebts x = new TideDebts();
        Due.feed(x, text.group(1).getBytes());
        Matcher call = Pattern.compile("\nx\\.(\\w+)\\(([^)]*)\\); *// (-?\\d+|[A-Z]+)").matcher(readme);
        int calls = 0;
        while (call.find()) {
            calls++;
            String[] words = call.group(2).isEmpty() ? new String[0] : call.group(2).split(", ");
            long[] numbers = Arrays.stream(words).mapToLong(Long::parseLong).toArray();
            String due = call.group(3);
            Due.is(call.group().trim(), NAMED.containsKey(due) ? NAMED.get(due) : Integer.parseInt(due),
                Calls.call(x, call.group(1), numbers));
        }
        Due.is("all of them are read", readme.split("\nx\\.", -1).length - 1, calls);
    }

    private static void everyCallIsNamed(String readme) {
        for (Method m : TideDebts.class.getDeclaredMethods()) {
            if (Modifier.isPublic(m.getModifiers())) {
                Due.is(m.getName() + " is named", 1, readme.contains("`" + m.getName() + "`") ? 1 : 0);
            }
        }
    }
}
