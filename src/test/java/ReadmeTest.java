import java.io.IOException;
import java.lang.reflect.InvocationTargetException;
import java.lang.reflect.Method;
import java.lang.reflect.Modifier;
import java.nio.file.Files;
import java.nio.file.Path;
import java.util.regex.Matcher;
import java.util.regex.Pattern;

/** README.md must not tell what is not so: its example is called line by line, and it names each call. */
public final class ReadmeTest {
    private static int wrong = 0;
    private static int answers = 0;

    private static void tell(String what) {
        wrong++;
        System.out.println("README.md: " + what);
    }

    public static void main(String[] args) throws IOException, IllegalAccessException, InvocationTargetException {
        String text = Files.readString(Path.of("README.md"));
        namesEachCall(text);
        example(text);
        if (answers < 3) {
            tell("its example has " + answers + " answers");
        }
        if (wrong > 0) {
            System.exit(1);
        }
    }

    private static void namesEachCall(String text) {
        for (Method m : LateMasters.class.getDeclaredMethods()) {
            if (Modifier.isPublic(m.getModifiers()) && !text.contains("`" + m.getName() + "`")) {
                tell(m.getName() + " is not named");
            }
        }
    }

    /** A comment that begins with a number tells what its line answers. */
    private static void example(String text) throws IllegalAccessException, InvocationTargetException {
        LateMasters x = new LateMasters();
        int from = text.indexOf("```java");
        int to = text.indexOf("```", from + 3);
        Matcher lines = Pattern.compile("x\\.(\\w+)\\((.*?)\\);(?: *// (-?\\d+)(?= |:|\n))?")
                .matcher(text.substring(from, to));
        while (lines.find()) {
            Object got = call(x, lines.group(1), lines.group(2));
            if (lines.group(3) != null) {
                answers++;
                if (!String.valueOf(got).equals(lines.group(3))) {
                    tell(lines.group() + " answered " + got);
                }
            }
        }
    }

    private static Object call(LateMasters x, String name, String numbers)
            throws IllegalAccessException, InvocationTargetException {
        String[] told = numbers.isEmpty() ? new String[0] : numbers.split(", *");
        Object[] given = new Object[told.length];
        for (int i = 0; i < told.length; i++) {
            given[i] = Integer.decode(told[i]);
        }
        for (Method m : LateMasters.class.getDeclaredMethods()) {
            if (m.getName().equals(name) && m.getParameterCount() == given.length) {
                return m.invoke(x, given);
            }
        }
        tell("no call " + name + " with " + given.length + " numbers");
        return null;
    }
}
