import java.lang.reflect.Method;
import java.nio.charset.StandardCharsets;
import java.nio.file.Files;
import java.nio.file.Path;
import java.util.Set;
import java.util.TreeSet;
import java.util.regex.Matcher;
import java.util.regex.Pattern;

/** README.md shows calls with their answers, names every call, and names every test. */
public final class Readme {
    private static final Pattern CALL = Pattern.compile("x\\.(\\w+)\\(([^)]*)\\); +// (-?\\d+)\\b.*");
    private static final int FEWEST_CALLS = 30;

    private static int wrong;

    private static void tell(String what) {
        wrong++;
        System.out.println(what);
    }

    public static void main(String[] args) throws Exception {
        String page = Files.readString(Path.of("README.md"), StandardCharsets.UTF_8);
        example(page);
        for (Method m : WheelSkips.class.getMethods()) {
            if (m.getDeclaringClass() == WheelSkips.class && !page.contains("`" + m.getName() + "`")) {
                tell("README.md does not name " + m.getName());
            }
        }
        for (String test : tests()) {
            if (!page.contains("`tests/" + test + "`")) tell("README.md does not name tests/" + test);
        }
        if (wrong != 0) System.exit(1);
        System.out.println("README.md is as the class");
    }

    private static void example(String page) throws Exception {
        Matcher block = Pattern.compile("```java\n(.*?)```", Pattern.DOTALL).matcher(page);
        if (!block.find()) {
            tell("README.md shows no calls");
            return;
        }
        WheelSkips x = new WheelSkips();
        int calls = 0;
        for (String line : block.group(1).split("\n")) {
            Matcher call = CALL.matcher(line);
            if (line.isEmpty() || line.startsWith("//") || line.equals("WheelSkips x = new WheelSkips();")) continue;
            if (!call.matches()) {
                tell("not a call with its answer: " + line);
                continue;
            }
            long got = answer(x, call.group(1), call.group(2).split(", *"));
            if (got != Long.parseLong(call.group(3))) tell(line + " answered " + got);
            calls++;
        }
        if (calls < FEWEST_CALLS) tell("README.md shows " + calls + " calls alone");
    }

    private static long answer(WheelSkips x, String name, String[] told) throws Exception {
        for (Method m : WheelSkips.class.getMethods()) {
            if (m.getDeclaringClass() != WheelSkips.class || !m.getName().equals(name)) continue;
            Class<?>[] types = m.getParameterTypes();
            Object[] values = new Object[types.length];
            for (int i = 0; i < types.length; i++) {
                long v = told[i].startsWith("'") ? told[i].charAt(1) : Long.parseLong(told[i]);
                if (types[i] == long.class) values[i] = v;
                else values[i] = (int) v;
            }
            return ((Number) m.invoke(x, values)).longValue();
        }
        tell("no such call: " + name);
        return 0;
    }

    private static Set<String> tests() throws Exception {
        Set<String> names = new TreeSet<>();
        try (var files = Files.newDirectoryStream(Path.of("tests"), "*.java")) {
            for (Path file : files) names.add(file.getFileName().toString());
        }
        return names;
    }
}
