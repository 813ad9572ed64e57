import java.io.IOException;
import java.lang.reflect.InvocationTargetException;
import java.lang.reflect.Method;
import java.lang.reflect.Modifier;
import java.nio.file.DirectoryStream;
import java.nio.file.Files;
import java.nio.file.Path;
import java.util.List;
import java.util.regex.Matcher;
import java.util.regex.Pattern;

/** README.md: its example answers what stands behind each call, and no call of the face and no test is missing. */
public final class ReadmeTest {
    private static final Pattern CALL = Pattern.compile("room\\.(\\w+)\\(([-0-9, ]*)\\); +// ((?:throws )?[-\\w.]+).*");
    private static final Pattern TEXT = Pattern.compile("for \\(char code : \"([!-~]*)\"\\.toCharArray\\(\\)\\) \\{");

    public static void main(String[] args) throws IOException {
        List<String> lines = Files.readAllLines(Path.of("README.md"));
        runExample(lines);
        namesEveryCall(String.join("\n", lines));
        namesEveryTest(String.join("\n", lines));
        Check.end();
    }

    private static void runExample(List<String> lines) {
        SewingPiles room = new SewingPiles();
        int start = lines.indexOf("```java");
        int calls = 0;
        for (int line = start + 1; line < lines.size() && !lines.get(line).equals("```"); line++) {
            Matcher text = TEXT.matcher(lines.get(line));
            if (text.matches()) {
                Check.write(room, text.group(1));
            } else if (lines.get(line).startsWith("room.")) {
                dueAnswer(room, lines.get(line));
                calls++;
            }
        }
        Check.due("the example has calls", 1, calls >= 10 ? 1 : 0);
    }

    private static void dueAnswer(SewingPiles room, String line) {
        Matcher call = CALL.matcher(line);
        if (call.matches()) {
            String got = answer(room, call.group(1), call.group(2));
            Check.due(line + ", it answered " + got, 1, got.equals(call.group(3)) ? 1 : 0);
        } else {
            Check.due("a call with its answer: " + line, 1, 0);
        }
    }

    private static String answer(SewingPiles room, String name, String written) {
        String[] parts = written.isEmpty() ? new String[0] : written.split(", ");
        Object[] numbers = new Object[parts.length];
        for (int i = 0; i < parts.length; i++) {
            numbers[i] = Integer.valueOf(parts[i]);
        }
        try {
            for (Method method : SewingPiles.class.getMethods()) {
                if (method.getName().equals(name) && method.getParameterCount() == numbers.length) {
                    return String.valueOf(method.invoke(room, numbers));
                }
            }
            return "no such call";
        } catch (InvocationTargetException e) {
            return "throws " + e.getCause().getClass().getSimpleName();
        } catch (IllegalAccessException e) {
            return "no public call";
        }
    }

    private static void namesEveryCall(String page) {
        for (Method method : SewingPiles.class.getDeclaredMethods()) {
            if (Modifier.isPublic(method.getModifiers())) {
                String call = "`" + method.getName() + "(";
                Check.due("README.md tells of " + call, 1, page.contains(call) ? 1 : 0);
            }
        }
    }

    private static void namesEveryTest(String page) throws IOException {
        try (DirectoryStream<Path> tests = Files.newDirectoryStream(Path.of("src/test/java"), "*Test.java")) {
            for (Path test : tests) {
                String row = "| `" + test.getFileName().toString().replace(".java", "") + "` |";
                Check.due("README.md has a row " + row, 1, page.contains(row) ? 1 : 0);
            }
        }
    }
}
