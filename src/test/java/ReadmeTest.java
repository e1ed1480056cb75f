import java.io.IOException;
import java.lang.reflect.Method;
import java.nio.file.Files;
import java.nio.file.Path;
import java.util.Set;
import java.util.TreeSet;
import java.util.regex.Matcher;
import java.util.regex.Pattern;

/** Makes each call that README.md shows, on a new object for each of its examples. */
public final class ReadmeTest {
    private static final Pattern EXAMPLE = Pattern.compile("(?s)```java\n(ThreeEmpties x.*?)```");
    private static final Pattern NEW = Pattern.compile("ThreeEmpties x = new ThreeEmpties\\(\\);");
    private static final Pattern WRITE = Pattern.compile("write\\(x, \"(.*)\"\\);");
    private static final Pattern CALL = Pattern.compile("x\\.(\\w+)\\(([-0-9, ]*)\\); +// (-?[0-9]+)(:.*)?");

    public static void main(String[] args) throws Exception {
        String page = Files.readString(Path.of("README.md"));
        Matcher example = EXAMPLE.matcher(page);
        int examples = 0;
        Set<String> called = new TreeSet<>();
        while (example.find()) {
            examples++;
            Check.about("README.md, example " + examples);
            run(example.group(1), called);
        }
        if (examples < 5 || called.size() < 25) {
            Check.fail("too few examples: " + examples + ", of " + called);
        }
        namesEachTest(page);
        Check.end();
    }

    private static void run(String example, Set<String> called) throws Exception {
        ThreeEmpties x = null;
        for (String line : example.split("\n")) {
            Matcher write = WRITE.matcher(line);
            Matcher call = CALL.matcher(line);
            if (NEW.matcher(line).matches()) {
                x = new ThreeEmpties();
            } else if (write.matches()) {
                Check.write(x, write.group(1));
            } else if (call.matches()) {
                called.add(call.group(1));
                Check.due(line, answer(x, call.group(1), call.group(2)), Long.parseLong(call.group(3)));
            } else {
                Check.fail("a line that is no call: " + line);
            }
        }
    }

    private static long answer(ThreeEmpties x, String name, String told) throws Exception {
        String[] words = told.isEmpty() ? new String[0] : told.split(", ");
        for (Method method : ThreeEmpties.class.getMethods()) {
            if (method.getName().equals(name) && method.getParameterCount() == words.length) {
                Object[] numbers = new Object[words.length];
                for (int i = 0; i < words.length; i++) {
                    numbers[i] = Integer.valueOf(words[i]);
                }
                return ((Number) method.invoke(x, numbers)).longValue();
            }
        }
        Check.fail("there is no " + name + " of " + words.length);
        return 0;
    }

    private static void namesEachTest(String page) throws IOException {
        try (var files = Files.list(Path.of("src/test/java"))) {
            for (Path file : files.sorted().toList()) {
                String name = file.getFileName().toString().replace(".java", "");
                if (name.endsWith("Test") && !page.contains("`" + name + "`")) {
                    Check.fail("the page does not name " + name);
                }
            }
        }
    }
}
