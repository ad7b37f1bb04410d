import java.io.IOException;
import java.lang.reflect.Method;
import java.lang.reflect.Modifier;
import java.nio.file.Files;
import java.nio.file.Path;
import java.util.Arrays;
import java.util.regex.Matcher;
import java.util.regex.Pattern;

/** README.md's example answers as it says, and its table has each call; it is run from the project's folder. */
final class ReadmeTest {
    private static final Pattern CALL = Pattern.compile("(?m)^bus\\.(\\w+)\\(([-0-9, ]*)\\);\\s*// (-?\\d+):");
    private static final int AT_LEAST = 20;

    public static void main(String[] args) throws IOException, ReflectiveOperationException {
        String text = Files.readString(Path.of("README.md"));
        example(text);
        for (Method m : SlotStart.class.getDeclaredMethods()) {
            if (Modifier.isPublic(m.getModifiers())) {
                boolean isTold = text.contains("`" + m.getName() + "(");
                Check.due("README.md does not tell of " + m.getName(), isTold ? 0 : 1, 0);
            }
        }
        Check.end();
    }

    private static void example(String text) throws ReflectiveOperationException {
        SlotStart bus = new SlotStart();
        Matcher call = CALL.matcher(text);
        int found = 0;
        while (call.find()) {
            found++;
            int due = Integer.parseInt(call.group(3));
            Check.due("README.md: " + call.group(), answer(bus, call.group(1), call.group(2)), due);
        }
        Check.due("lines of the example that are no calls", text.split("(?m)^bus\\.", -1).length - 1 - found, 0);
        Check.due("too few calls: " + found, found < AT_LEAST ? 1 : 0, 0);
    }

    private static int answer(SlotStart bus, String name, String numbers) throws ReflectiveOperationException {
        String[] parts = numbers.isBlank() ? new String[0] : numbers.split(", ");
        Object[] given = new Object[parts.length];
        for (int i = 0; i < parts.length; i++) {
            given[i] = Integer.parseInt(parts[i]);
        }
        Class<?>[] types = new Class<?>[parts.length];
        Arrays.fill(types, int.class);
        return (int) SlotStart.class.getMethod(name, types).invoke(bus, given);
    }
}
