import java.io.IOException;
import java.lang.reflect.Method;
import java.lang.reflect.Modifier;
import java.nio.file.Files;
import java.nio.file.Path;
import java.util.regex.Matcher;
import java.util.regex.Pattern;

/** What README.md tells of the class is so: its examples, its calls, and the tests that it names. */
public final class ReadmeTest {
    private static final Pattern EXAMPLE = Pattern.compile("house\\.(\\w+)\\(([^)]*)\\);\\s+// (-?\\w+)");
    private static final Pattern TEST = Pattern.compile("`(\\w+Test)`");

    public static void main(String[] args) throws IOException {
        Due due = new Due("readme");
        String readme = Files.readString(Path.of("README.md"));
        example(due, block(readme, "java"));
        Run.of(due, "the rows that README.md shows", block(readme, "text"));
        everyCall(due, readme);
        testsThatStand(due, readme);
        due.end();
    }

    private static String block(String readme, String kind) {
        Matcher found = Pattern.compile("(?s)```" + kind + "\n(.*?)```").matcher(readme);
        return found.find() ? found.group(1) : "";
    }

    private static void example(Due due, String code) {
        StringBuilder rows = new StringBuilder();
        int calls = 0;
        Matcher call = EXAMPLE.matcher(code);
        while (call.find()) {
            // The example has one copy, the first one, so its number is 1.
            String arguments = call.group(2).replace("copy", "1").replace("ItemStates.", "").replace(",", "");
            rows.append(call.group(1)).append(' ').append(arguments).append(" -> ").append(call.group(3)).append('\n');
            calls++;
        }
        due.is("calls of the example with an answer", calls, code.split("house\\.", -1).length - 1);
        Run.of(due, "the example of README.md", rows.toString());
    }

    private static void everyCall(Due due, String readme) {
        for (Method method : ItemStates.class.getDeclaredMethods()) {
            if (Modifier.isPublic(method.getModifiers())) {
                int commas = method.getParameterCount() - 1;
                String told = "(?s).*\\| `" + method.getName() + "\\((\\w+, ){" + commas + "}\\w+\\)` \\|.*";
                due.is("a row for " + method.getName(), readme.matches(told), true);
            }
        }
    }

    private static void testsThatStand(Due due, String readme) {
        Matcher name = TEST.matcher(readme);
        while (name.find()) {
            Path file = Path.of("src/test/java", name.group(1) + ".java");
            due.is("there is a " + file, Files.exists(file), true);
        }
    }
}
