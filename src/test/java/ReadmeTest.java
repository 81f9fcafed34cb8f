import java.io.IOException;
import java.lang.reflect.Method;
import java.nio.file.Files;
import java.nio.file.Path;
import java.util.Arrays;
import java.util.regex.Matcher;
import java.util.regex.Pattern;

/** Makes the calls of README.md's examples and compares every answer with the one told there. */
public final class ReadmeTest {
    private static final Path README = Path.of("README.md");
    private static final Pattern EXAMPLE = Pattern.compile("```java\n(.*?)```", Pattern.DOTALL);
    private static final String NEW_OBJECT = "RowQueries x = new RowQueries();";
    private static final Pattern CALL = Pattern.compile("x\\.(\\w+)\\(([^)]*)\\); +// (-?\\d+)(:.*)?");

    private static int wrong = 0;
    private static int calls = 0;

    private static void tell(String what) {
        wrong++;
        System.out.println(what);
    }

    private static int answer(RowQueries x, String name, String arguments) throws ReflectiveOperationException {
        Object[] numbers = Arrays.stream(arguments.split(","))
                .map(String::strip).filter(text -> !text.isEmpty()).map(Integer::valueOf).toArray();
        Class<?>[] types = new Class<?>[numbers.length];
        Arrays.fill(types, int.class);
        Method method = RowQueries.class.getMethod(name, types);
        return (int) method.invoke(x, numbers);
    }

    private static void follow(String example) throws ReflectiveOperationException {
        RowQueries x = new RowQueries();
        String[] lines = example.split("\n");
        if (!lines[0].equals(NEW_OBJECT)) {
            tell("an example does not begin with a new object: " + lines[0]);
        }
        for (int i = 1; i < lines.length; i++) {
            Matcher call = CALL.matcher(lines[i]);
            if (!call.matches()) {
                tell("not a call with its answer: " + lines[i]);
                continue;
            }
            calls++;
            int answer = answer(x, call.group(1), call.group(2));
            if (answer != Integer.parseInt(call.group(3))) {
                tell("answered " + answer + ": " + lines[i]);
            }
        }
    }

    public static void main(String[] args) throws IOException, ReflectiveOperationException {
        Matcher example = EXAMPLE.matcher(Files.readString(README));
        while (example.find()) {
            follow(example.group(1));
        }
        if (calls == 0) {
            tell("no example was found in " + README);
        }
        System.out.println(wrong == 0 ? "all " + calls + " answers are as told" : wrong + " lines are not as due");
        if (wrong != 0) {
            System.exit(1);
        }
    }
}
