import java.io.IOException;
import java.lang.reflect.Field;
import java.lang.reflect.Method;
import java.lang.reflect.Modifier;
import java.nio.file.Files;
import java.nio.file.Path;
import java.util.regex.Matcher;
import java.util.regex.Pattern;

/** What can be seen of ../shared/LANGUAGE.md in the source's own words. Run from the project's folder. */
public final class LanguageTest {
    private static final Check CHECK = new Check();
    private static final String[] NEVER = {
        "\\bthrow\\b", "\\bthrows\\b", "\\btry\\b", "\\bcatch\\b", "\\bsynchronized\\b", "\\bassert\\b", "\\bimport\\b",
        "\\bpackage\\b", "\\bprotected\\b", "->", "::", "\\bSystem\\.(?!arraycopy)", "\\bThread\\b", "\\bvar\\b",
        "Exact\\b", "\\bNaN\\b", "\\bObject\\b", "\\bhashCode\\b", "\\btoString\\b", "\\bMath\\.(?!(abs|max|min)\\()",
        "\"\\s*\\+|\\+\\s*\"", "\\bwhile\\s*\\(\\s*true", "for\\s*\\(\\s*;\\s*;"};

    public static void main(String[] args) throws IOException {
        String source = Files.readString(Path.of("src/main/java/YardPump.java"));
        for (int i = 0; i < source.length(); i++) {
            if (source.charAt(i) > 126) CHECK.yes("no sign above 126 at " + i, false);
        }
        String bare = source.replaceAll("(?s)/\\*.*?\\*/", " ").replaceAll("//[^\n]*", " ");
        for (String word : NEVER) {
            Matcher found = Pattern.compile(word).matcher(bare);
            CHECK.yes("no " + word, !found.find());
        }
        Matcher made = Pattern.compile("\\bnew\\b[^;]*").matcher(bare);
        while (made.find()) CHECK.yes("made in a field alone: " + made.group(), inField(bare, made.start()));
        sizes(YardPump.class);
        for (Class<?> inside : YardPump.class.getDeclaredClasses()) sizes(inside);
        CHECK.yes("twelve classes at most", YardPump.class.getDeclaredClasses().length < 12);
        methodLengths(source);
        CHECK.end("LanguageTest");
    }

    /** Rules 3, 5 and 11: static fields are final, fields are few, a method takes seven parameters at most. */
    private static void sizes(Class<?> type) {
        int fields = 0;
        for (Field field : type.getDeclaredFields()) {
            boolean isStatic = Modifier.isStatic(field.getModifiers());
            if (!isStatic) fields++;
            CHECK.yes("static " + field + " is final", !isStatic || Modifier.isFinal(field.getModifiers()));
            CHECK.yes(field + " is no row of rows of objects", !field.getType().getName().startsWith("[[L"));
        }
        CHECK.yes(type + " has twenty fields at most", fields <= 20);
        CHECK.yes(type + " is no inner class", type == YardPump.class || Modifier.isStatic(type.getModifiers()));
        for (Method method : type.getDeclaredMethods()) {
            CHECK.yes(method + " takes seven numbers at most", method.getParameterCount() <= 7);
        }
    }

    /** Rule 11: methods stay short. A method ends where its first line's indent comes again with a brace. */
    private static void methodLengths(String source) {
        String[] lines = source.split("\n");
        for (int i = 0; i < lines.length; i++) {
            Matcher head = Pattern.compile("( {4}| {8})[A-Za-z][A-Za-z\\[\\] ]*\\(.*\\) \\{").matcher(lines[i]);
            if (!head.matches()) continue;
            int end = i;
            while (end < lines.length && !lines[end].equals(head.group(1) + "}")) end++;
            CHECK.yes("short: " + lines[i].trim(), end - i < 60);
        }
    }

    /** All calls share one room: what is made is made with the object. */
    private static boolean inField(String source, int at) {
        String line = source.substring(source.lastIndexOf('\n', at) + 1, at);
        return line.matches("\\s*(private )?final .* = .*");
    }
}
