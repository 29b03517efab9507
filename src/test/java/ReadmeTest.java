import java.io.IOException;
import java.lang.reflect.Method;
import java.nio.charset.StandardCharsets;
import java.nio.file.DirectoryStream;
import java.nio.file.Files;
import java.nio.file.Path;
import java.util.HashMap;
import java.util.Map;
import java.util.regex.Matcher;
import java.util.regex.Pattern;

/** What README.md says of the class and of its tests is so. */
public final class ReadmeTest {
    private static final String[] ERRORS = {"BEYOND", "NONE", "STATE", "FULL", "KIND", "PARTED"};

    public static void main(String[] args) throws Exception {
        String page = Files.readString(Path.of("README.md"), StandardCharsets.UTF_8);
        runAnswersAsTold(page);
        eachCallIsNamed(page);
        eachErrorIsNamed(page);
        eachTestIsNamed(page);
        Due.holds("the promised number of calls is told", page.contains("promised for 512 calls"));
        Due.end("ReadmeTest");
    }

    private static void runAnswersAsTold(String page) throws Exception {
        RopeShore shore = new RopeShore();
        Map<String, Method> calls = new HashMap<>();
        for (Method m : RopeShore.class.getMethods()) {
            calls.put(m.getName(), m);
        }
        Matcher line = Pattern.compile("(?m)^shore\\.(\\w+)\\((.*)\\); +// (-?\\d+):? .*$").matcher(page);
        int lines = 0;
        while (line.find()) {
            Method call = calls.get(line.group(1));
            Due.holds(line.group() + " is of the class", call != null);
            if (call != null) {
                Due.is(line.group(), (int) call.invoke(shore, values(call, line.group(2))), Long.parseLong(line.group(3)));
            }
            lines++;
        }
        Due.is("lines of the run with an answer", lines, page.split("(?m)^shore\\.", -1).length - 1);
        Due.holds("it is a run", lines > 20 && lines < 512);
    }

    private static Object[] values(Method call, String told) {
        String[] each = told.isEmpty() ? new String[0] : told.split(", ");
        Object[] values = new Object[each.length];
        for (int i = 0; i < each.length; i++) {
            long value = Long.decode(each[i].replaceAll("L$", ""));
            values[i] = call.getParameterTypes()[i] == long.class ? (Object) value : (Object) (int) value;
        }
        return values;
    }

    private static void eachCallIsNamed(String page) {
        String answers = page.substring(page.indexOf("### What a call answers"), page.indexOf("### What an ERROR is"));
        for (Method m : RopeShore.class.getDeclaredMethods()) {
            if (java.lang.reflect.Modifier.isPublic(m.getModifiers())) {
                Due.holds("what " + m.getName() + " answers is told", answers.contains("`" + m.getName() + "`"));
            }
        }
    }

    private static void eachErrorIsNamed(String page) {
        for (int k = 1; k <= ERRORS.length; k++) {
            String row = "| " + ERRORS[k - 1] + " | " + (Due.LOW - k) + " | `told(" + k + ")` |";
            Due.holds(row, page.contains(row));
        }
    }

    private static void eachTestIsNamed(String page) throws IOException {
        try (DirectoryStream<Path> tests = Files.newDirectoryStream(Path.of("src/test/java"), "*Test.java")) {
            for (Path test : tests) {
                String name = test.getFileName().toString().replace(".java", "");
                Due.holds(name + " is in the table of tests", page.contains("| `" + name + "` |"));
            }
        }
    }
}
