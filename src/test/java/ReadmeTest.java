import java.io.File;
import java.io.IOException;
import java.lang.reflect.Method;
import java.nio.file.Files;
import java.nio.file.Path;
import java.util.regex.Matcher;
import java.util.regex.Pattern;

/** README.md: its calls, run in their order, answer what stands behind them, and it names each test. */
public final class ReadmeTest {
    private static final Pattern CALL = Pattern.compile("^x\\.(\\w+)\\((.*)\\); +// (-?\\w+).*$");

    private static final Checks checks = new Checks("ReadmeTest");

    private ReadmeTest() {
    }

    public static void main(String[] args) throws IOException, ReflectiveOperationException {
        String text = Files.readString(Path.of("README.md"));
        checks.due("calls that README.md shows", calls(text) > 20, true);
        File[] tests = new File("src/test/java").listFiles((folder, name) -> name.endsWith("Test.java"));
        for (File test : tests) {
            String name = test.getName().replace(".java", "");
            checks.due(name + " stands in README.md", text.contains("`" + name + "`"), true);
        }
        checks.end();
    }

    private static int calls(String text) throws ReflectiveOperationException {
        ForeignKnit x = new ForeignKnit();
        int made = 0;
        for (String line : text.split("\n")) {
            Matcher call = CALL.matcher(line);
            if (call.matches()) {
                made++;
                String want = call.group(3);
                checks.due(line, number(answer(x, call.group(1), call.group(2))), number(want));
            } else {
                checks.due("a call without an answer: " + line, line.startsWith("x."), false);
            }
        }
        return made;
    }

    private static String answer(ForeignKnit x, String name, String given) throws ReflectiveOperationException {
        String[] texts = given.isEmpty() ? new String[0] : given.split(", ");
        for (Method method : ForeignKnit.class.getMethods()) {
            Class<?>[] types = method.getParameterTypes();
            if (method.getName().equals(name) && types.length == texts.length) {
                Object[] values = new Object[types.length];
                for (int i = 0; i < values.length; i++) {
                    long value = Long.decode(texts[i].replaceAll("(?<=\\w)L$", ""));
                    if (types[i] == long.class) {
                        values[i] = value;
                    } else {
                        values[i] = (int) value;
                    }
                }
                return method.invoke(x, values).toString();
            }
        }
        return "no such call";
    }

    /** An answer as a number, a boolean as 1 or 0. */
    private static long number(String answer) {
        return switch (answer) {
            case "true" -> 1;
            case "false" -> 0;
            default -> Long.parseLong(answer);
        };
    }
}
