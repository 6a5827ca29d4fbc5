import java.io.IOException;
import java.lang.reflect.Field;
import java.lang.reflect.Method;
import java.lang.reflect.Modifier;
import java.nio.file.Files;
import java.nio.file.Path;
import java.util.Arrays;
import java.util.HashSet;
import java.util.Set;
import java.util.regex.Matcher;
import java.util.regex.Pattern;

/** README.md shows every call of the class, and its example answers what stands behind each call. */
public final class ReadmeTest {
    private static final Pattern TYPED =
            Pattern.compile("for \\(char b : \"(.*)\"\\.toCharArray\\(\\)\\) x\\.type\\((\\d), b\\);.*");
    private static final Pattern CALL = Pattern.compile("x\\.(\\w+)\\((.*?)\\); +// .*?(?:: (-?\\d+))?");
    private static final Due due = new Due();

    public static void main(String[] args) throws IOException, ReflectiveOperationException {
        String readme = Files.readString(Path.of("README.md"));
        Set<String> shown = play(readme.split("```java\n")[1].split("```")[0]);
        for (Method m : LilyQuarrels.class.getDeclaredMethods()) {
            due.yes("shows " + m.getName(), !Modifier.isPublic(m.getModifiers()) || shown.contains(m.getName()));
        }
        for (Field f : LilyQuarrels.class.getFields()) {
            due.yes("tells " + f.getName(), readme.contains("| `" + f.getName() + "` | " + f.getInt(null) + " |"));
        }
        due.yes("how to run the tests", readme.contains("`.ci/run`"));
        due.end();
    }

    /** The names of the calls that the example shows. */
    private static Set<String> play(String example) throws ReflectiveOperationException {
        LilyQuarrels x = new LilyQuarrels();
        Set<String> shown = new HashSet<>();
        String[] lines = example.split("\n");
        due.same("first line", lines[0].compareTo("LilyQuarrels x = new LilyQuarrels();"), 0);
        for (int i = 1; i < lines.length; i++) {
            Matcher typed = TYPED.matcher(lines[i]);
            Matcher call = CALL.matcher(lines[i]);
            if (typed.matches()) {
                Told.type(x, Integer.parseInt(typed.group(2)), typed.group(1));
                shown.add("type");
            } else if (call.matches()) {
                long got = answer(x, call.group(1), call.group(2));
                due.yes("an answer stands behind " + lines[i], call.group(3) != null || call.group(1).equals("digest"));
                due.same(lines[i], got, call.group(3) == null ? got : Long.parseLong(call.group(3)));
                shown.add(call.group(1));
            } else {
                due.yes("a line that is no call: " + lines[i], lines[i].isEmpty());
            }
        }
        return shown;
    }

    private static long answer(LilyQuarrels x, String name, String numbers) throws ReflectiveOperationException {
        Object[] arguments = numbers.isEmpty() ? new Object[0]
                : Arrays.stream(numbers.split(", ")).map(Integer::valueOf).toArray();
        Class<?>[] ints = new Class<?>[arguments.length];
        Arrays.fill(ints, int.class);
        return ((Number) LilyQuarrels.class.getMethod(name, ints).invoke(x, arguments)).longValue();
    }
}
