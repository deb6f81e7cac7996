import java.lang.reflect.Method;
import java.lang.reflect.Modifier;
import java.nio.file.Files;
import java.nio.file.Path;
import java.util.regex.Matcher;
import java.util.regex.Pattern;

/** What README.md shows is so: each call of its example gives the answer that stands behind it, and no call is left out. */
public final class LawFinderReadme {
    private static final Pattern BLOCK = Pattern.compile("(?s)```java\n(.*?)```");
    private static final Pattern CALL = Pattern.compile("x\\.(\\w+)\\(([-0-9, ]*)\\);\\s+// (-?\\d+|true|false)\\b.*");
    private static int wrong = 0;

    private static void check(boolean good, String what) {
        if (!good) {
            wrong++;
            System.out.println("wrong: " + what);
        }
    }

    private static Object answer(LawFinder x, String name, String arguments) throws Exception {
        String[] written = arguments.isBlank() ? new String[0] : arguments.split(",");
        Class<?>[] types = new Class<?>[written.length];
        Object[] values = new Object[written.length];
        for (int i = 0; i < written.length; i++) {
            types[i] = int.class;
            values[i] = Integer.valueOf(written[i].trim());
        }
        return LawFinder.class.getMethod(name, types).invoke(x, values);
    }

    private static void example(String readme) throws Exception {
        Matcher block = BLOCK.matcher(readme);
        check(block.find(), "there is no example");
        LawFinder x = new LawFinder();
        int calls = 0;
        for (String line : block.group(1).split("\n")) {
            Matcher call = CALL.matcher(line);
            if (call.matches()) {
                calls++;
                String got = String.valueOf(answer(x, call.group(1), call.group(2)));
                check(got.equals(call.group(3)), line + " answered " + got);
            } else {
                check(line.startsWith("LawFinder x = new LawFinder();"), "no call with an answer: " + line);
            }
        }
        check(calls > 9, "the example has " + calls + " calls alone");
    }

    private static void everyCallIsNamed(String readme) {
        for (Method m : LawFinder.class.getDeclaredMethods()) {
            if (Modifier.isPublic(m.getModifiers())) {
                check(readme.contains("`" + m.getName() + "`"), m.getName() + " is not named");
            }
        }
    }

    public static void main(String[] args) throws Exception {
        String readme = Files.readString(Path.of("README.md"));
        example(readme);
        everyCallIsNamed(readme);
        System.out.println(wrong == 0 ? "README.md is as the program" : wrong + " things in README.md are not so");
        if (wrong != 0) {
            System.exit(1);
        }
    }
}
