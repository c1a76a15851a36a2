import java.io.IOException;
import java.nio.file.Files;
import java.nio.file.Path;
import java.util.regex.Matcher;
import java.util.regex.Pattern;

/** What LANGUAGE.md rules out and a look at the source can find; run from the project's folder. */
final class LanguageTest {
    private static final Check CHECK = new Check("LanguageTest");
    private static final String[] RULED_OUT = {
        "\\b(throw|throws|try|catch|finally|synchronized|assert|import|package|volatile|native)\\b",
        "->", "::", "\\bvar\\b", "\\b(hashCode|toString|getClass)\\b",
        "\\b\\w+Exact\\b", "\\bstatic\\s*\\{", "\\b(Object|Thread|Random|Iterator)\\b",
        "\\bSystem\\.(?!arraycopy\\b)", "\\bMath\\.(?!max\\b|min\\b)", "\\bnull\\b", "\\(int\\)",
        "/(?!/|\\*)", "%"
    };

    public static void main(String[] args) throws IOException {
        String source = Files.readString(Path.of("src/main/java/PaintedLines.java"));
        String code = withoutRemarks(source);
        for (String ruledOut : RULED_OUT) {
            Matcher matcher = Pattern.compile(ruledOut).matcher(code);
            CHECK.due("what fits " + ruledOut, matcher.find() ? matcher.group() : "none", "none");
        }
        for (int i = 0; i < source.length(); i++) {
            if (source.charAt(i) > 126) {
                CHECK.due("a sign beyond 126 at " + i, source.charAt(i), 126);
            }
        }
        methodsStayShort(code);
        CHECK.end();
    }

    /** Remarks and texts go, line ends stay. */
    private static String withoutRemarks(String source) {
        return source.replaceAll("'(\\\\.|[^'\\\\])'", "0")
                .replaceAll("(?s)/\\*.*?\\*/", "")
                .replaceAll("//[^\n]*", "");
    }

    private static void methodsStayShort(String code) {
        Pattern method = Pattern.compile("(?m)^( {4}| {8})(?=\\w)(?!if|for|while|switch)[\\w\\[\\] ]+\\([^)]*\\) \\{$");
        Matcher matcher = method.matcher(code);
        int seen = 0;
        while (matcher.find()) {
            String close = "\n" + matcher.group(1) + "}\n";
            int end = code.indexOf(close, matcher.end());
            CHECK.isTrue(matcher.group().trim() + " ends", end >= 0);
            long rows = code.substring(matcher.start(), Math.max(end, matcher.start())).lines().count();
            CHECK.isTrue(matcher.group().trim() + " has " + rows + " rows", rows <= 60);
            seen++;
        }
        CHECK.isTrue("methods were found", seen > 40);
    }
}
