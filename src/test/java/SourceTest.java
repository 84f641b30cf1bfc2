import java.io.IOException;
import java.nio.file.Files;
import java.nio.file.Path;
import java.util.List;
import java.util.regex.Matcher;
import java.util.regex.Pattern;

/** The rules of LANGUAGE.md that the source's own words show (FaceTest has those that reflection sees). */
public final class SourceTest {
    private static final int MOST_LINES_OF_A_METHOD = 60;
    /** Rules 1, 2, 4, 6, 13: what must not stand in the code. */
    private static final String[] NEVER = {"\\bpackage\\b", "->", "::", "\\btry\\b", "\\bcatch\\b", "\\bfinally\\b",
        "\\bsynchronized\\b", "\\bassert\\b", "\\w+Exact\\b", "\\bString\\.", "\\bdouble\\b", "\\bfloat\\b", "\\bhashCode\\b",
        "\\btoString\\b", "\\bprotected\\b", "\\bvar\\b", "\\bnative\\b", "\\bvolatile\\b", "\\bThread\\b", "\\bObject\\b",
        "\\bSystem\\.(?!arraycopy)", "\\bArrays\\.(?!copyOf|copyOfRange|fill)", "\\bMath\\.(?!max|min|abs)", "@\\w+"};
    private static final Pattern METHOD = Pattern.compile("^( {4}| {8})(public|private|static|boolean|int|long|void|byte|Feel|\\w+\\().*\\{$");

    public static void main(String[] args) throws IOException {
        List<String> lines = Files.readAllLines(Path.of("src/main/java/ThreadHouse.java"));
        for (int n = 0; n < lines.size(); n++) {
            wordsOf(n + 1, lines.get(n));
        }
        methodsOf(lines);
        Check.finish();
    }

    private static void wordsOf(int number, String line) {
        String at = "line " + number + ", " + line.trim() + ": ";
        Check.same(at + "signs 32 to 126 alone", line.matches("[ -~]*"), true);
        String code = line.replaceAll("//.*|^ *(/\\*\\*|\\*).*", "").replaceAll("\"[^\"]*\"", "\"\"");
        for (String never : NEVER) {
            Check.same(at + "has " + never, Pattern.compile(never).matcher(code).find(), false);
        }
        if (code.startsWith("import")) {
            Check.same(at + "is an import of the list",
                    code.matches("import java\\.util\\.(Arrays|NoSuchElementException|ArrayList|List);"), true);
        }
        if (code.contains("throw ")) {
            Check.same(at + "a new one with a written text",
                    line.matches(" *throw new NoSuchElementException\\(\"[^\"]*\"\\);"), true);
        }
        if (code.matches(".*\\bstatic\\b.*;") && !code.contains("(")) {
            Check.same(at + "static, so final", code.contains("static final"), true);
        }
    }

    private static void methodsOf(List<String> lines) {
        int methods = 0;
        for (int n = 0; n < lines.size(); n++) {
            Matcher matcher = METHOD.matcher(lines.get(n));
            if (!matcher.matches() || lines.get(n).contains(" class ") || lines.get(n).contains(" enum ")) {
                continue;
            }
            methods++;
            int last = n;
            while (!lines.get(last).equals(matcher.group(1) + "}")) {
                last++;
            }
            Check.same(lines.get(n).trim() + " is short", last - n < MOST_LINES_OF_A_METHOD, true);
        }
        // The face alone has 26: with fewer the pattern would not see them.
        Check.same("methods are seen", methods > 100, true);
    }
}
