import java.io.IOException;
import java.lang.reflect.Field;
import java.lang.reflect.Method;
import java.lang.reflect.Modifier;
import java.nio.file.Files;
import java.nio.file.Path;
import java.util.List;
import java.util.regex.Matcher;
import java.util.regex.Pattern;

/** README.md names every call and every constant, and its examples answer as it says. Run from the project's folder. */
public final class ReadmeTest {
    private static final Check CHECK = new Check();
    private static final Pattern TYPED = Pattern.compile(".*\"(.*)\"\\.toCharArray.*");
    private static final Pattern ASKED = Pattern.compile("x\\.(\\w+)\\(([-\\d, ]*)\\);\\s*// (-?\\d+)");

    public static void main(String[] args) throws IOException, ReflectiveOperationException {
        List<String> lines = Files.readAllLines(Path.of("README.md"));
        examples(lines);
        calls(String.join("\n", lines));
        CHECK.end("ReadmeTest");
    }

    private static void examples(List<String> lines) throws ReflectiveOperationException {
        CHECK.part("README.md's examples");
        int objects = 0;
        int asked = 0;
        YardPump x = null;
        boolean code = false;
        for (String line : lines) {
            if (line.startsWith("```")) {
                code = line.equals("```java");
                continue;
            }
            if (!code) continue;
            Matcher typed = TYPED.matcher(line);
            Matcher call = ASKED.matcher(line);
            if (line.equals("YardPump x = new YardPump();")) {
                x = new YardPump();
                objects++;
            } else if (typed.matches()) {
                Check.write(x, typed.group(1));
            } else if (call.matches()) {
                CHECK.due(line, ask(x, call.group(1), call.group(2)), Long.parseLong(call.group(3)));
                asked++;
            } else {
                CHECK.yes("a line that can be read: " + line, false);
            }
        }
        CHECK.due("objects in the examples", objects, 3);
        CHECK.yes("calls in the examples", asked > 12);
    }

    private static long ask(YardPump x, String name, String numbers) throws ReflectiveOperationException {
        String[] given = numbers.isEmpty() ? new String[0] : numbers.split(", ");
        for (Method method : YardPump.class.getMethods()) {
            if (!method.getName().equals(name) || method.getParameterCount() != given.length) continue;
            Object[] values = new Object[given.length];
            for (int i = 0; i < given.length; i++) {
                boolean isLong = method.getParameterTypes()[i] == long.class;
                values[i] = isLong ? (Object) Long.valueOf(given[i]) : Integer.valueOf(given[i]);
            }
            return ((Number) method.invoke(x, values)).longValue();
        }
        throw new NoSuchMethodException(name);
    }

    private static void calls(String page) throws ReflectiveOperationException {
        CHECK.part("README.md names");
        for (Method method : YardPump.class.getDeclaredMethods()) {
            if (!Modifier.isPublic(method.getModifiers())) continue;
            String row = "| `" + method.getName() + "(";
            CHECK.yes(row + "..", page.contains(row));
            int numbers = method.getParameterCount();
            String takes = page.replaceAll("(?s).*\\| `" + method.getName() + "\\(([^)]*)\\).*", "$1");
            CHECK.due(method.getName() + " takes", takes.isEmpty() ? 0 : takes.split(", ").length, numbers);
        }
        for (Field field : YardPump.class.getFields()) {
            String row = "| `" + field.getName() + "` | " + field.get(null) + " |";
            CHECK.yes(row, page.contains(row));
        }
    }
}
