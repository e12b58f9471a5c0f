import java.io.IOException;
import java.lang.reflect.InvocationTargetException;
import java.lang.reflect.Method;
import java.lang.reflect.Modifier;
import java.nio.file.Files;
import java.nio.file.Path;
import java.util.ArrayList;
import java.util.HashMap;
import java.util.List;
import java.util.Map;
import java.util.regex.Matcher;
import java.util.regex.Pattern;

/** The example of README.md, read from there and called line by line, answers what README.md says. */
public final class ReadmeTests {
    private static final Pattern MADE =
            Pattern.compile("SeedChains x = new SeedChains\\((-?\\d+), (-?\\d+)\\);\\s*//.*");
    private static final Pattern CALLED =
            Pattern.compile("(?:int (\\w+) = )?x\\.(\\w+)\\(([^()]*)\\);\\s*// (-?\\d+): .*");

    private final Check check = new Check();
    private final Map<String, Integer> known = new HashMap<>();
    private SeedChains x = null;

    private static List<String> example(List<String> readme) {
        int begin = readme.indexOf("```java");
        List<String> lines = new ArrayList<>();
        for (int i = begin + 1; begin >= 0 && i < readme.size() && !readme.get(i).equals("```"); i++) {
            if (!readme.get(i).isBlank()) {
                lines.add(readme.get(i).strip());
            }
        }
        return lines;
    }

    private void line(String text) {
        Matcher made = MADE.matcher(text);
        Matcher called = CALLED.matcher(text);
        if (x == null && made.matches()) {
            x = new SeedChains(Integer.parseInt(made.group(1)), Integer.parseInt(made.group(2)));
        } else if (x != null && called.matches()) {
            int want = Integer.parseInt(called.group(4));
            check.due(text, want, () -> answer(called.group(2), called.group(3)));
            if (called.group(1) != null) {
                known.put(called.group(1), want);
            }
        } else {
            check.that("a line of the example is a call with its answer: " + text, false);
        }
    }

    private int answer(String name, String list) {
        String[] words = list.isEmpty() ? new String[0] : list.split(", ");
        Class<?>[] types = new Class<?>[words.length];
        Object[] values = new Object[words.length];
        for (int i = 0; i < words.length; i++) {
            types[i] = int.class;
            values[i] = known.containsKey(words[i]) ? known.get(words[i]) : Integer.valueOf(words[i]);
        }
        try {
            return (int) SeedChains.class.getMethod(name, types).invoke(x, values);
        } catch (InvocationTargetException e) {
            throw (RuntimeException) e.getCause();
        } catch (ReflectiveOperationException e) {
            throw new AssertionError("no such call: " + name, e);
        }
    }

    /** A call that the example leaves out is one that a reader never sees in use. */
    private void everyCallIsShown(List<String> example, String readme) {
        String shown = String.join("\n", example);
        for (Method m : SeedChains.class.getDeclaredMethods()) {
            if (Modifier.isPublic(m.getModifiers())) {
                check.that("the example calls " + m.getName(), shown.contains("x." + m.getName() + "("));
                check.that("README.md tells of " + m.getName(), readme.contains("| `" + m.getName() + "("));
            }
        }
    }

    public static void main(String[] args) throws IOException {
        ReadmeTests tests = new ReadmeTests();
        List<String> readme = Files.readAllLines(Path.of("README.md"));
        List<String> example = example(readme);
        tests.known.put("SeedChains.NONE", SeedChains.NONE);
        for (String text : example) {
            tests.line(text);
        }
        tests.everyCallIsShown(example, String.join("\n", readme));
        tests.check.end("ReadmeTests");
    }
}
