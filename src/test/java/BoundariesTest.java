import java.io.IOException;
import java.lang.reflect.Method;
import java.nio.file.Files;
import java.nio.file.Path;
import java.util.regex.Matcher;
import java.util.regex.Pattern;

/** Each test that BOUNDARIES.md names is there; it is run from the project's folder. */
final class BoundariesTest {
    private static final int AT_LEAST = 60;

    public static void main(String[] args) throws IOException {
        String text = Files.readString(Path.of("src/test/BOUNDARIES.md"));
        Matcher named = Pattern.compile("\\b(\\w+Test)\\.(\\w+)").matcher(text);
        int found = 0;
        while (named.find()) {
            found++;
            Check.due("there is no " + named.group(), has(named.group(1), named.group(2)) ? 0 : 1, 0);
        }
        Check.due("too few are named: " + found, found < AT_LEAST ? 1 : 0, 0);
        Check.end();
    }

    private static boolean has(String type, String name) {
        try {
            for (Method m : Class.forName(type).getDeclaredMethods()) {
                if (m.getName().equals(name)) {
                    return true;
                }
            }
        } catch (ClassNotFoundException e) {
            return false;
        }
        return false;
    }
}
