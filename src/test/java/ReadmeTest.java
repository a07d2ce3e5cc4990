import java.io.IOException;
import java.io.UncheckedIOException;
import java.lang.reflect.InvocationTargetException;
import java.lang.reflect.Method;
import java.lang.reflect.Modifier;
import java.nio.file.Files;
import java.nio.file.Path;
import java.util.List;
import java.util.regex.Matcher;
import java.util.regex.Pattern;

/** Makes the calls of README.md, which stands where the tests are run, and looks at their answers. */
public final class ReadmeTest {
    private static final Pattern CALL = Pattern.compile("hall\\.(\\w+)\\((.*?)\\); *// (throws \\w+|[\\w-]+).*");

    public static void main(String[] args) {
        Cases cases = new Cases("README.md");
        cases.check("each call answers what stands behind it", ReadmeTest::playCalls);
        cases.check("each call of the face is there", ReadmeTest::lookForCalls);
        cases.check("it says how the tests are run", ReadmeTest::lookForTests);
        cases.finish();
    }

    private static void playCalls(Expect expect) {
        RuleHall hall = new RuleHall();
        for (String line : read()) {
            Matcher call = CALL.matcher(line);
            if (call.matches()) {
                String got = answer(hall, call.group(1), call.group(2).split(", *"));
                expect.yes(line + " answered " + got, got.equals(call.group(3).replace("NONE", "-1")));
            }
        }
    }

    private static void lookForCalls(Expect expect) {
        String text = String.join("\n", read());
        for (Method m : RuleHall.class.getDeclaredMethods()) {
            if (Modifier.isPublic(m.getModifiers())) {
                expect.yes(m.getName(), text.contains("`" + m.getName() + "`"));
            }
        }
    }

    private static void lookForTests(Expect expect) {
        expect.yes(".ci/run", read().contains("    .ci/run"));
    }

    private static String answer(RuleHall hall, String name, String[] words) {
        for (Method m : RuleHall.class.getMethods()) {
            if (m.getName().equals(name)) {
                return answer(hall, m, words);
            }
        }
        return "no such call";
    }

    private static String answer(RuleHall hall, Method m, String[] words) {
        Object[] values = new Object[m.getParameterCount()];
        for (int i = 0; i < values.length; i++) {
            long value = Long.decode(words[i].replace("L", ""));
            if (m.getParameterTypes()[i] == long.class) {
                values[i] = value;
            } else {
                values[i] = (int) value;
            }
        }
        try {
            return m.invoke(hall, values).toString();
        } catch (InvocationTargetException e) {
            return "throws " + e.getCause().getClass().getSimpleName();
        } catch (IllegalAccessException e) {
            return e.toString();
        }
    }

    private static List<String> read() {
        try {
            return Files.readAllLines(Path.of("README.md"));
        } catch (IOException e) {
            throw new UncheckedIOException(e);
        }
    }
}
