import java.io.IOException;
import java.nio.file.Files;
import java.nio.file.Path;
import java.util.Arrays;
import java.util.function.IntUnaryOperator;
import java.util.function.ToIntFunction;
import java.util.regex.Matcher;
import java.util.regex.Pattern;

/**
 * Ties tests to the document: each test stands under the words that it is for, these must stand in
 * the document, just once in their part of it, and words of the document's terms and promises that
 * no test stands under are told as wrong.
 */
final class Edges {
    private static final Pattern NO_PROMISE = Pattern.compile(
            "## Terms|```text|```|======== 2"
            + "|## Promise \\d+: [A-Za-z ]+(?= `)"
            + "|Ahead of the calls [^:]*: ---- [^.]*\\.");

    private final Check check = new Check("EdgeTest");
    private final String document;
    private final boolean[] isTested;
    private String words = "";

    Edges(Path path) throws IOException {
        document = Files.readString(path).replaceAll("\\s+", " ");
        isTested = new boolean[document.length()];
    }

    /** Words of the part "What it is". */
    void use(String text, Runnable test) {
        under("## What it is", "## The public face", text, test);
    }

    /** Words of the part "Terms". */
    void term(String text, Runnable test) {
        under("## Terms", "## Promise 1:", text, test);
    }

    /** Words of the promise of that number. */
    void promise(int number, String text, Runnable test) {
        String next = number < 20 ? "## Promise " + (number + 1) + ":" : "## Not promised";
        under("## Promise " + number + ":", next, text, test);
    }

    private void under(String from, String to, String text, Runnable test) {
        words = from.replace("## ", "").replace(":", "") + ", \"" + text + "\"";
        int begin = document.indexOf(from);
        int end = document.indexOf(to);
        int place = document.indexOf(text, begin);
        boolean stands = begin >= 0 && place >= 0 && place + text.length() <= end;
        due("these words stand in the document, behind " + from, stands);
        if (stands) {
            int again = document.indexOf(text, place + 1);
            due("they stand there once", again < 0 || again >= end);
            Arrays.fill(isTested, place, place + text.length(), true);
        }
        int before = check.asked();
        due("what a call threw", thrownBy(test), "nothing");
        due("something is asked", check.asked() > before + 1);
    }

    /** No call may throw; the tests behind one that throws are run all the same. */
    private static String thrownBy(Runnable test) {
        try {
            test.run();
            return "nothing";
        } catch (RuntimeException thrown) {
            return thrown.toString();
        }
    }

    void due(String what, long got, long want) {
        check.due(words + ": " + what, got, want);
    }

    void due(String what, String got, String want) {
        check.due(words + ": " + what, got, want);
    }

    void due(String what, boolean holds) {
        check.isTrue(words + ": " + what, holds);
    }

    /** A line alone on its page: a figure for each byte's colour, and what stands open at its end. */
    void paints(String bytes, String colours, String end) {
        PaintedLines x = Check.page(bytes);
        due("colours of " + bytes, Check.colours(x, 0), colours);
        due("the end of " + bytes, Check.end(x, 0), end);
    }

    /** A number below, above, and far beyond the least and the greatest one that is as told. */
    void bad(String name, int least, int greatest, IntUnaryOperator call) {
        due(name + "(" + least + ") is not refused", call.applyAsInt(least) != Check.BAD);
        due(name + "(" + greatest + ") is not refused", call.applyAsInt(greatest) != Check.BAD);
        int[] wrong = {least - 1, greatest + 1, Integer.MIN_VALUE, Integer.MAX_VALUE, least + 256, -greatest - 256};
        for (int number : wrong) {
            due(name + "(" + number + ")", call.applyAsInt(number), Check.BAD);
        }
    }

    /** Of an object with four states back and ANEW 0: the call leaves a fifth, and back gives all again. */
    void leavesAStateBack(String name, PaintedLines x, ToIntFunction<PaintedLines> call) {
        String before = Check.seen(x);
        due(name + ": not refused", call.applyAsInt(x) >= 0);
        due(name + ": one more", x.told(7), 5);
        due(name + ": back", x.back(), 4);
        due(name + ": all that there was", Check.seen(x), before);
    }

    void end() {
        words = "all of the document";
        int begin = document.indexOf("## Terms");
        int end = document.indexOf("## Not promised");
        due("its parts are found", begin >= 0 && end > begin);
        if (begin >= 0 && end > begin) {
            markHeadings();
            due("words without a test", untested(begin, end), "");
        }
        check.end();
    }

    private void markHeadings() {
        Matcher matcher = NO_PROMISE.matcher(document);
        while (matcher.find()) {
            Arrays.fill(isTested, matcher.start(), matcher.end(), true);
        }
    }

    private String untested(int begin, int end) {
        StringBuilder left = new StringBuilder();
        for (int i = begin; i < end; i++) {
            if (!isTested[i]) {
                left.append(document.charAt(i));
            }
        }
        return left.toString().replaceAll("\\s+", " ").trim();
    }
}
