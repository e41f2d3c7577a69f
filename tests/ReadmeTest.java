import java.io.IOException;
import java.lang.reflect.Method;
import java.nio.charset.StandardCharsets;
import java.nio.file.DirectoryStream;
import java.nio.file.Files;
import java.nio.file.Path;
import java.util.ArrayList;
import java.util.Arrays;
import java.util.List;
import java.util.Set;
import java.util.TreeSet;
import java.util.regex.Matcher;
import java.util.regex.Pattern;

/** README.md: its command runs all tests, the tests it names are those there are, its example is true. */
public final class ReadmeTest {
    private static final Pattern CALL = Pattern.compile("x\\.(\\w+)\\(([^)]*)\\);\\s*// (.*)");

    private ReadmeTest() {
    }

    public static void main(String[] args) throws Exception {
        String readme = Files.readString(Path.of("README.md"));
        checkCommand(readme);
        checkNames(readme);
        checkExample(readme);
        Check.end();
    }

    // ---- the command

    private static void checkCommand(String readme) throws IOException, InterruptedException {
        List<String> commands = found("`([^`\n]*\\.ci/run[^`\n]*)`", readme);
        Check.same("README tells one way to run the tests: " + commands, 1, commands.size());
        Set<String> due = new TreeSet<>(filesOf("tests", "*Test.java"));
        due.addAll(filesOf("../shared/tests", "*.java"));
        Set<String> listed = new TreeSet<>();
        for (String command : commands) {
            listed.addAll(linesOf(command));
        }
        Check.same("the tests that README's way runs: " + listed + ", those there are: " + due, true,
                due.equals(listed));
    }

    /** What a command writes that is asked to name its tests alone (else this test would run itself). */
    private static List<String> linesOf(String command) throws IOException, InterruptedException {
        List<String> words = new ArrayList<>(List.of(command.split(" ")));
        words.add("--list");
        Process process = new ProcessBuilder(words).redirectErrorStream(true).start();
        String written = new String(process.getInputStream().readAllBytes(), StandardCharsets.UTF_8);
        Check.same(command + " ends well", 0, process.waitFor());
        return List.of(written.split("\n"));
    }

    private static List<String> filesOf(String directory, String glob) throws IOException {
        List<String> names = new ArrayList<>();
        try (DirectoryStream<Path> files = Files.newDirectoryStream(Path.of(directory), glob)) {
            for (Path file : files) {
                names.add(directory + "/" + file.getFileName());
            }
        }
        return names;
    }

    // ---- the names

    private static void checkNames(String readme) throws IOException {
        Set<String> named = new TreeSet<>(found("(tests/\\w+\\.java)", readme));
        for (String file : filesOf("tests", "*Test.java")) {
            Check.same("README names " + file, true, named.contains(file));
        }
        for (String file : named) {
            Check.same("there is " + file, true, Files.exists(Path.of(file)));
        }
    }

    private static List<String> found(String pattern, String text) {
        List<String> groups = new ArrayList<>();
        Matcher matcher = Pattern.compile(pattern).matcher(text);
        while (matcher.find()) {
            groups.add(matcher.group(1));
        }
        return groups;
    }

    // ---- the example

    private static void checkExample(String readme) throws ReflectiveOperationException {
        List<String> examples = found("(?s)```java\n(.*?)```", readme);
        Check.same("README has one example", 1, examples.size());
        int calls = 0;
        WindowTurns x = new WindowTurns();
        for (String line : String.join("\n", examples).split("\n")) {
            Matcher call = CALL.matcher(line);
            if (call.matches()) {
                checkCall(x, line, call);
                calls++;
            } else if (!line.matches("WindowTurns x = new WindowTurns\\(\\);|x\\.end\\(20\\);")) {
                Check.same("a line that is known: " + line, true, false);
            } else if (line.startsWith("x.end")) {
                Check.same(line, true, x.end(20));
            }
        }
        Check.same("README's example has calls", true, calls >= 5);
    }

    private static void checkCall(WindowTurns x, String line, Matcher call) throws ReflectiveOperationException {
        List<Object> numbers = new ArrayList<>();
        for (String word : call.group(2).split(",")) {
            if (!word.isBlank()) {
                numbers.add((int) (long) Long.decode(word.trim()));
            }
        }
        Class<?>[] types = new Class<?>[numbers.size()];
        Arrays.fill(types, int.class);
        Method method = WindowTurns.class.getMethod(call.group(1), types);
        long answer = ((Number) method.invoke(x, numbers.toArray())).longValue();
        String told = call.group(3);
        if (told.startsWith("\"")) {
            Check.same(line, true, told.equals("\"" + textOf(numbers) + "\""));
        } else {
            Check.same(line, Long.parseLong(told.replaceAll("^\\D*(\\d+).*", "$1")), answer);
        }
    }

    private static String textOf(List<Object> numbers) {
        StringBuilder text = new StringBuilder();
        for (Object number : numbers) {
            for (int shift = 24; shift >= 0; shift -= 8) {
                text.append((char) ((Integer) number >>> shift & 255));
            }
        }
        return text.toString();
    }
}
