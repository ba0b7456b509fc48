import java.io.IOException;
import java.nio.file.Files;
import java.nio.file.Path;
import java.util.List;
import java.util.regex.Pattern;

/** Those rules of ../shared/LANGUAGE.md that a look at the source's lines can tell. */
public final class LanguageTest {
    private static final Check CHECK = new Check("LanguageTest");
    private static final int LONGEST_METHOD = 60;
    private static final String[] REFUSED = {
        "->", "::", "\\bsynchronized\\b", "\\bassert\\b", "\\bfinally\\b", "\\btry\\b", "\\bcatch\\b", "Exact\\(",
        "\\bstatic \\{", "\\bSystem\\.(?!arraycopy)", "\\bvar\\b", "\\bpackage\\b", "\\bprotected\\b",
        "\\bString\\[", "\\bObject\\b", "\\bdouble\\b|\\bfloat\\b", "\\bvalues\\(\\)",
        "\\bstatic (?!final|boolean|int|long)[a-z]", "\\bimport (?!java\\.util\\.(Arrays|NoSuchElementException);)",
        "\\.(hashCode|toString|getMessage)\\(", "\\bwhile \\(true\\)|for \\(;;\\)",
    };

    private LanguageTest() {
    }

    public static void main(String[] args) throws IOException {
        List<String> lines = Files.readAllLines(Path.of("src/main/java/LandRun.java"));
        for (int i = 0; i < lines.size(); i++) {
            String line = lines.get(i);
            String code = line.strip();
            if (code.startsWith("*") || code.startsWith("/*") || code.startsWith("//")) {
                continue;
            }
            for (String refused : REFUSED) {
                CHECK.no("line " + (i + 1) + " has " + refused, Pattern.compile(refused).matcher(line).find());
            }
        }
        methodsStayShort(lines, "    ");
        methodsStayShort(lines, "        ");
        CHECK.finish();
    }

    private static void methodsStayShort(List<String> lines, String indent) {
        int begin = -1;
        for (int i = 0; i < lines.size(); i++) {
            String line = lines.get(i);
            if (line.matches(indent + "[a-zA-Z].*\\).* \\{")) {
                begin = i;
            } else if (line.equals(indent + "}") && begin >= 0) {
                CHECK.yes("the method at line " + (begin + 1) + " is short", i - begin < LONGEST_METHOD);
                begin = -1;
            }
        }
    }
}
