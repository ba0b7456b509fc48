import java.io.File;
import java.io.IOException;
import java.lang.reflect.InvocationTargetException;
import java.lang.reflect.Method;
import java.lang.reflect.Modifier;
import java.nio.file.Files;
import java.nio.file.Path;
import java.util.HashMap;
import java.util.List;
import java.util.Map;
import java.util.regex.Matcher;
import java.util.regex.Pattern;

/** README.md tells the truth: its lines of Java answer what stands behind them, and it names each call and test. */
public final class ReadmeTest {
    private static final Check CHECK = new Check("ReadmeTest");
    private static final int FEWEST_LINES = 40;
    /** A name for the answer or none, the call, its arguments, and the answer that is told. */
    private static final Pattern LINE =
            Pattern.compile("(?:int (\\w+) = )?x\\.(\\w+)\\((.*?)\\); +// (-?\\d+|true|false)(?:\\b.*)?");

    private final LandRun x = new LandRun();
    private final Map<String, Object> names = new HashMap<>();
    private int lines = 0;

    private ReadmeTest() {
    }

    public static void main(String[] args) throws IOException, IllegalAccessException {
        List<String> page = Files.readAllLines(Path.of("README.md"));
        new ReadmeTest().playLines(page);
        namesEachCall(page);
        namesEachTest(page);
        CHECK.finish();
    }

    private void playLines(List<String> page) throws IllegalAccessException {
        boolean java = false;
        for (String line : page) {
            if (line.startsWith("```")) {
                java = line.equals("```java");
            } else if (java && !line.equals("LandRun x = new LandRun();")) {
                play(line);
            }
        }
        CHECK.yes(lines + " lines of README.md were played", lines >= FEWEST_LINES);
    }

    private void play(String line) throws IllegalAccessException {
        Matcher parts = LINE.matcher(line);
        CHECK.yes("can be played: " + line, parts.matches());
        if (!parts.matches()) {
            return;
        }
        lines++;
        Object answer = answerOf(methodOf(parts.group(2)), parts.group(3));
        CHECK.yes(line + " answered " + answer, String.valueOf(answer).equals(parts.group(4)));
        if (parts.group(1) != null) {
            names.put(parts.group(1), answer);
        }
    }

    private static Method methodOf(String name) {
        for (Method method : LandRun.class.getDeclaredMethods()) {
            if (method.getName().equals(name) && Modifier.isPublic(method.getModifiers())) {
                return method;
            }
        }
        throw new IllegalArgumentException("no such call: " + name);
    }

    private Object answerOf(Method method, String arguments) throws IllegalAccessException {
        String[] texts = arguments.isEmpty() ? new String[0] : arguments.split(", ");
        Object[] values = new Object[texts.length];
        for (int i = 0; i < texts.length; i++) {
            values[i] = valueOf(texts[i]);
        }
        try {
            return method.invoke(x, values);
        } catch (InvocationTargetException e) {
            return e.getCause();
        }
    }

    private Object valueOf(String text) {
        if (text.equals("true") || text.equals("false")) {
            return Boolean.valueOf(text);
        }
        return names.containsKey(text) ? names.get(text) : Integer.decode(text);
    }

    private static void namesEachCall(List<String> page) {
        for (Method method : LandRun.class.getDeclaredMethods()) {
            if (Modifier.isPublic(method.getModifiers())) {
                String row = "| `" + method.getName() + "(";
                CHECK.yes("README.md tells of " + method.getName(), page.stream().anyMatch(line -> line.startsWith(row)));
            }
        }
    }

    private static void namesEachTest(List<String> page) {
        File[] files = new File("src/test/java").listFiles();
        CHECK.yes("there are tests", files != null);
        for (File file : files == null ? new File[0] : files) {
            String name = file.getName().replace(".java", "");
            CHECK.yes("README.md tells of " + name,
                    !name.endsWith("Test") || page.stream().anyMatch(line -> line.startsWith("| " + name + " |")));
        }
    }
}
