import java.io.IOException;
import java.nio.file.Files;
import java.nio.file.Path;
import java.util.List;
import java.util.regex.Matcher;
import java.util.regex.Pattern;

/** The rules of LANGUAGE.md that can be seen from the words of the program; it is run from the project's folder. */
final class LanguageTest {
    private static final List<String> NEVER = List.of(
        "\\b(throw|throws|try|catch|synchronized|assert|import|package|native|volatile|transient|var)\\b",
        "->", "::", "Exact\\b", "\\b(hashCode|toString)\\b", "\\bSystem\\.(?!arraycopy)", "\\bprotected\\b",
        "\\bnew int\\[[^\\]]*\\]\\[[^\\]]*\\]\\[", "\\bstatic\\s*\\{");
    private static final int LONGEST_METHOD = 60, MOST_PARAMETERS = 7, MOST_CLASSES = 12;

    public static void main(String[] args) throws IOException {
        String text = Files.readString(Path.of("src/main/java/SlotStart.java"));
        String code = text.replaceAll("(?s)/\\*.*?\\*/", "").replaceAll("//[^\n]*", "");
        for (String never : NEVER) {
            Check.due("how often " + never, count(never, code), 0);
        }
        Check.due("signs beyond 127", count("[^\\x00-\\x7f]", text), 0);
        Check.due("too many classes", count("\\b(class|record|enum|interface) [A-Z]", code) > MOST_CLASSES ? 1 : 0, 0);
        Check.due("static fields that are not final", count("\\bstatic (?!final)[a-zA-Z\\[\\]]+ \\w+( =|;)", code), 0);
        parameters(code);
        lengths(text);
        Check.end();
    }

    private static int count(String pattern, String text) {
        Matcher found = Pattern.compile(pattern).matcher(text);
        int often = 0;
        while (found.find()) {
            often++;
        }
        return often;
    }

    private static void parameters(String code) {
        Matcher head = Pattern.compile("\\w+ (\\w+)\\(([^()]*)\\) \\{").matcher(code);
        while (head.find()) {
            int parameters = head.group(2).split(",").length;
            Check.due("too many parameters: " + head.group(1), parameters > MOST_PARAMETERS ? 1 : 0, 0);
        }
    }

    /** A method ends at the bracket that stands as far in as its head. */
    private static void lengths(String text) {
        String[] lines = text.split("\n");
        Pattern head = Pattern.compile("^( {4}| {8})(?! )[^=;]*\\(.*\\) \\{$");
        for (int i = 0; i < lines.length; i++) {
            Matcher found = head.matcher(lines[i]);
            if (found.matches()) {
                int end = i;
                while (end < lines.length && !lines[end].equals(found.group(1) + "}")) {
                    end++;
                }
                Check.due("too long: " + lines[i].trim(), end - i > LONGEST_METHOD ? 1 : 0, 0);
            }
        }
    }
}
