import java.io.IOException;
import java.nio.file.Files;
import java.nio.file.Path;
import java.util.regex.Matcher;
import java.util.regex.Pattern;

/** What can be seen of ../shared/LANGUAGE.md in the source's own words. Run from the project's folder. */
public final class LanguageTest {
    private static final Check CHECK = new Check();
    private static final String[] NEVER = {
        "\\bthrow\\b", "\\bthrows\\b", "\\btry\\b", "\\bcatch\\b", "\\bsynchronized\\b", "\\bassert\\b", "\\bimport\\b",
        "\\bpackage\\b", "\\bprotected\\b", "->", "::", "\\bSystem\\.(?!arraycopy)", "\\bThread\\b", "\\bvar\\b",
        "Exact\\b", "\\bNaN\\b", "\\bObject\\b", "\\bhashCode\\b", "\\btoString\\b", "\\bMath\\.(?!(abs|max|min)\\()",
        "\"\\s*\\+|\\+\\s*\"", "\\bwhile\\s*\\(\\s*true", "for\\s*\\(\\s*;\\s*;"};

    public static void main(String[] args) throws IOException {
        String source = Files.readString(Path.of("src/main/java/YardPump.java"));
        for (int i = 0; i < source.length(); i++) {
            if (source.charAt(i) > 126) CHECK.yes("no sign above 126 at " + i, false);
        }
        String bare = source.replaceAll("(?s)/\\*.*?\\*/", " ").replaceAll("//[^\n]*", " ");
        for (String word : NEVER) {
            Matcher found = Pattern.compile(word).matcher(bare);
            CHECK.yes("no " + word, !found.find());
        }
        Matcher made = Pattern.compile("\\bnew\\b[^;]*").matcher(bare);
        while (made.find()) CHECK.yes("made in a field alone: " + made.group(), inField(bare, made.start()));
        CHECK.end("LanguageTest");
    }

    /** All calls share one room: what is made is made with the object. */
    private static boolean inField(String source, int at) {
        String line = source.substring(source.lastIndexOf('\n', at) + 1, at);
        return line.matches("\\s*(private )?final .* = .*");
    }
}
