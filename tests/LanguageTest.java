import java.io.IOException;
import java.nio.file.Files;
import java.nio.file.Path;
import java.util.List;
import java.util.regex.Matcher;
import java.util.regex.Pattern;

/** What of ../shared/LANGUAGE.md can be seen in the program's text. */
public final class LanguageTest {
    private static final Path PROGRAM = Path.of("src/main/java/WindowTurns.java");
    private static final List<String> IMPORTS = List.of("import java.util.Arrays;",
            "import java.util.NoSuchElementException;");
    private static final List<String> NEVER = List.of("\\btry\\b", "\\bcatch\\b", "\\bfinally\\b", "->", "::",
            "\\binstanceof\\b", "\\bsynchronized\\b", "\\bassert\\b", "\\brecord\\b", "\\bpackage\\b", "static \\{",
            "\\bSystem\\b", "\\bThread\\b", "\\bwhile\\b", "\\bfloat\\b", "\\bdouble\\b", "\\bList\\b");
    /** The only functions that index a row: each looks at the index first. */
    private static final List<String> INDEXING = List.of("at", "longAt", "put", "putLong", "copyRow", "copyLongs");

    private LanguageTest() {
    }

    public static void main(String[] args) throws IOException {
        String text = Files.readString(PROGRAM);
        Check.same("signs from 1 to 127 alone", true, text.chars().allMatch(c -> c > 0 && c < 128));
        String bare = text.replaceAll("(?s)/\\*.*?\\*/", "").replaceAll("//[^\n]*", "")
                .replaceAll("'\\\\?.'", "0");
        for (String never : NEVER) {
            Check.same("no " + never, false, Pattern.compile(never).matcher(bare).find());
        }
        for (String line : bare.split("\n")) {
            Check.same(line, true, !line.startsWith("import") || IMPORTS.contains(line));
        }
        Check.same("twelve classes at most", true, bare.split("\\bclass\\b").length - 1 <= 12);
        checkMethods(bare);
        checkThrows(bare);
        Check.end();
    }

    private static void checkMethods(String bare) {
        Matcher head = Pattern.compile("\n {4}(?: {4})?(?! )[a-zA-Z\\[\\] ]*?(\\w+)\\(([^)]*)\\)[^;{=]*\\{\n").matcher(bare);
        int found = 0;
        while (head.find()) {
            found++;
            int indent = head.group().indexOf(head.group().trim()) - 1;
            int end = bare.indexOf("\n" + " ".repeat(indent) + "}", head.start() + 1);
            String body = bare.substring(head.end(), Math.max(head.end(), end));
            String name = head.group(1);
            Check.same(name + " is short", true, body.split("\n").length <= 60);
            Check.same(name + " has seven parameters at most", true, head.group(2).split(",").length <= 7);
            boolean indexes = Pattern.compile("\\w\\[(?!\\])").matcher(body.replaceAll("new \\w+\\[", "")).find();
            Check.same(name + " indexes no row by itself", true, !indexes || INDEXING.contains(name));
        }
        Check.same("methods were found", true, found > 120);
    }

    private static void checkThrows(String bare) {
        Matcher thrown = Pattern.compile("throw [^;]*;").matcher(bare);
        while (thrown.find()) {
            Check.same(thrown.group(), true, thrown.group().equals("throw new NoSuchElementException();"));
        }
    }
}
