import java.math.BigInteger;

/** Promises 13 to 20: what is painted, and what there is. */
final class QuestionEdges {
    private final Edges edges;

    QuestionEdges(Edges edges) {
        this.edges = edges;
    }

    void all() {
        edges.promise(13, "`int at(int k, int i, int what)`: Byte i of LINE k: the byte (what 0), COLOUR (1),"
                + " SHADE (2).", this::at);
        edges.promise(13, "BAD.", this::atBad);
        of();
        edges.promise(15, "`int span(int k, int i, int what)`: Of SPAN i of LINE k: where it begins (what 0), how long"
                + " it is (1), COLOUR (2).", this::span);
        edges.promise(15, "NONE: not so many.", this::spanNone);
        edges.promise(15, "BAD: i below 0, too.", this::spanBad);
        edges.promise(16, "`int anew()`: ANEW (0 ahead of any CHANGE).", this::anew);
        edges.promise(17, "`int painted(int colour)`: How many bytes of all LINES have a COLOUR (0 .. 7).",
                this::painted);
        edges.promise(17, "BAD.", () -> edges.bad("painted", 0, 7, colour -> lines().painted(colour)));
        edges.promise(18, "`int back()`: A STATE BACK: how many can be yet.", this::back);
        edges.promise(18, "NO: none.", this::backNone);
        edges.promise(19, "`int told(int what)`: How often refused: BAD (0), NO (1), FULL (2);", this::toldRefused);
        edges.promise(19, "bytes of THE TEXT (3), LINES (4), WORDS (5), RULES (6), STATES BACK (7).",
                this::toldHowMany);
        edges.promise(19, "BAD.", () -> edges.bad("told", 0, 7, what -> lines().told(what)));
        digest();
    }

    private void of() {
        edges.promise(14, "`int of(int k, int what)`: Of LINE k: how many bytes (what 0), SPANS (1);", this::ofBytes);
        edges.promise(14, "of the STATE at its end: how many are on the PILE (2),", this::ofPile);
        edges.promise(14, "the highest MODE (3),", this::ofMode);
        edges.promise(14, "its QUOTE as a byte (4; NONE: no STRING),", this::ofQuote);
        edges.promise(14, "MARK as a byte (5; NONE).", this::ofMark);
        edges.promise(14, "BAD.", this::ofBad);
    }

    private void digest() {
        edges.promise(20, "`long digest()`: h = 2543; then h = 31 h + v for each v:", this::digestWraps);
        edges.promise(20, "told(0) to told(7);", this::digestOfTold);
        edges.promise(20, "anew();", this::digestOfAnew);
        edges.promise(20, "LINE by LINE of(0) to of(5),", this::digestOfLines);
        edges.promise(20, "of its bytes at(0) to at(2).", this::digestOfBytes);
    }

    private static PaintedLines lines() {
        return Check.page("a\"b", "", "c\"");
    }

    private void at() {
        PaintedLines x = Check.page(" ~" + "a".repeat(27) + "\"", "", "", "", "", "", "", "", "", "}");
        x.rule(4, 0, 99);
        x.rule(-1, 1, 7);
        edges.due("byte 0", x.at(0, 0, 0), 32);
        edges.due("byte 1", x.at(0, 1, 0), 126);
        edges.due("byte 29", x.at(0, 29, 0), '"');
        edges.due("COLOUR of byte 0", x.at(0, 0, 1), 0);
        edges.due("COLOUR of byte 29", x.at(0, 29, 1), 4);
        edges.due("SHADE of byte 0", x.at(0, 0, 2), 0);
        edges.due("SHADE of byte 29", x.at(0, 29, 2), 99);
        edges.due("LINE 9: the byte", x.at(9, 0, 0), '}');
        edges.due("LINE 9: COLOUR", x.at(9, 0, 1), 4);
        edges.due("LINE 9: SHADE", x.at(9, 0, 2), 7);
    }

    private void atBad() {
        edges.bad("at LINE", 0, 2, k -> lines().at(k, 0, 0));
        edges.bad("at byte", 0, 2, i -> lines().at(0, i, 0));
        edges.bad("at what", 0, 2, what -> lines().at(0, 0, what));
        edges.due("of none", new PaintedLines().at(0, 0, 0), Check.BAD);
        edges.due("of an empty LINE", lines().at(1, 0, 0), Check.BAD);
    }

    private void ofBytes() {
        PaintedLines x = Check.page("", "a", "a1".repeat(15), "9".repeat(30));
        int[][] want = {{0, 0}, {1, 1}, {30, 30}, {30, 1}};
        for (int k = 0; k < want.length; k++) {
            edges.due("bytes of LINE " + k, x.of(k, 0), want[k][0]);
            edges.due("SPANS of LINE " + k, x.of(k, 1), want[k][1]);
        }
    }

    private void ofPile() {
        PaintedLines x = Check.page("", "[", "[", "[[", "[", "[", "]]", "]]]");
        int[] want = {1, 2, 3, 5, 6, 6, 4, 1};
        for (int k = 0; k < want.length; k++) {
            edges.due("LINE " + k, x.of(k, 2), want[k]);
        }
        edges.due("at the end, not at the beginning", Check.page("[]").of(0, 2), 1);
    }

    private void ofMode() {
        PaintedLines x = Check.page("", "\"", "{", "[", "]}", "\"[", "]'", "<A\"", "a");
        int[] want = {0, 1, 0, 2, 1, 2, 0, 1, 1};
        for (int k = 0; k < want.length; k++) {
            edges.due("LINE " + k, x.of(k, 3), want[k]);
        }
    }

    private void ofQuote() {
        PaintedLines x = Check.page("", "\"", "{", "'", "\"", "[");
        int[] want = {Check.NONE, 34, Check.NONE, Check.NONE, 34, 34};
        for (int k = 0; k < want.length; k++) {
            edges.due("LINE " + k, x.of(k, 4), want[k]);
        }
        edges.due("a REMARK", Check.page("[\"").of(0, 4), Check.NONE);
        edges.due("a REMARK over a STRING", Check.page("\"{[").of(0, 4), Check.NONE);
        edges.due("under a MARK", Check.page("<A\"", "b").of(1, 4), 34);
    }

    private void ofMark() {
        PaintedLines x = Check.page("a", "<A", "", "B", "A", "<Z", "Z", "<z", "\"<A");
        int[] want = {Check.NONE, 65, 65, 65, Check.NONE, 90, Check.NONE, Check.NONE, Check.NONE};
        for (int k = 0; k < want.length; k++) {
            edges.due("LINE " + k, x.of(k, 5), want[k]);
        }
    }

    private void ofBad() {
        edges.bad("of LINE", 0, 2, k -> lines().of(k, 0));
        edges.bad("of what", 0, 5, what -> lines().of(0, what));
        edges.due("of none", new PaintedLines().of(0, 0), Check.BAD);
        edges.due("both", lines().of(3, 6), Check.BAD);
    }

    private void span() {
        PaintedLines x = Check.page("if 12\"a\"", "a1".repeat(15), "9".repeat(30));
        int[][] want = {{0, 2, 1}, {2, 1, 0}, {3, 2, 3}, {5, 3, 4}};
        for (int i = 0; i < want.length; i++) {
            for (int what = 0; what <= 2; what++) {
                edges.due("span(0, " + i + ", " + what + ")", x.span(0, i, what), want[i][what]);
            }
        }
        edges.due("the last of 30 begins", x.span(1, 29, 0), 29);
        edges.due("the last of 30 is long", x.span(1, 29, 1), 1);
        edges.due("the last of 30 has COLOUR", x.span(1, 29, 2), 3);
        edges.due("the only one is long", x.span(2, 0, 1), 30);
    }

    private void spanNone() {
        PaintedLines x = Check.page("a1", "", "a1".repeat(15));
        for (int what = 0; what <= 2; what++) {
            edges.due("of two", x.span(0, 2, what), Check.NONE);
            edges.due("of an empty LINE", x.span(1, 0, what), Check.NONE);
            edges.due("of thirty", x.span(2, 30, what), Check.NONE);
            edges.due("far beyond", x.span(0, Integer.MAX_VALUE, what), Check.NONE);
        }
        edges.due("it is not refused", x.told(0), 0);
    }

    private void spanBad() {
        edges.bad("span of LINE", 0, 2, k -> lines().span(k, 0, 0));
        edges.bad("span what", 0, 2, what -> lines().span(0, 0, what));
        edges.due("i -1", lines().span(0, -1, 0), Check.BAD);
        edges.due("i least", lines().span(0, Integer.MIN_VALUE, 0), Check.BAD);
        edges.due("i -1 of an empty LINE", lines().span(1, -1, 0), Check.BAD);
        edges.due("what 3 of a SPAN that is none", lines().span(0, 9, 3), Check.BAD);
        edges.due("what -1 of an empty LINE", lines().span(1, 0, -1), Check.BAD);
        edges.due("of none", new PaintedLines().span(0, 0, 0), Check.BAD);
    }

    private void anew() {
        PaintedLines x = new PaintedLines();
        edges.due("a new object", x.anew(), 0);
        x.type('a');
        x.rule(0, 0, 0);
        x.inserts(1);
        x.back();
        edges.due("ahead of any CHANGE", x.anew(), 0);
        x.inserts(0);
        edges.due("a CHANGE", x.anew(), 1);
        edges.due("asked again", x.anew(), 1);
    }

    private void painted() {
        PaintedLines x = Check.page("if a1}", "\"{2", "}\"[r", "", "]9 ?");
        Check.addWord(x, "if");
        int[] want = {3, 1, 2, 3, 2, 3, 1, 2};
        for (int colour = 0; colour <= 7; colour++) {
            edges.due("painted(" + colour + ")", x.painted(colour), want[colour]);
        }
        String full = "0".repeat(30);
        PaintedLines y = Check.page(full, full, full, full, full, full, full, full, full, full);
        edges.due("all of ten LINES of 30", y.painted(3), 300);
        edges.due("none of them", y.painted(0), 0);
        y.drops(9);
        edges.due("a LINE went", y.painted(3), 270);
        y.erases(0, 29);
        edges.due("a byte went", y.painted(3), 269);
    }

    private void back() {
        PaintedLines x = new PaintedLines();
        for (int n = 0; n < 6; n++) {
            x.inserts(0);
        }
        for (int left = 4; left >= 0; left--) {
            edges.due("back", x.back(), left);
            edges.due("LINES", x.told(4), left + 1);
        }
        x.inserts(0);
        edges.due("what was gone back behind can't come again", x.back(), 0);
        edges.due("LINES", x.told(4), 1);
    }

    private void backNone() {
        PaintedLines x = new PaintedLines();
        edges.due("a new object", x.back(), Check.NO);
        x.inserts(0);
        edges.due("one", x.back(), 0);
        edges.due("none", x.back(), Check.NO);
        edges.due("how often", x.told(1), 2);
        edges.due("LINES", x.told(4), 0);
    }

    private void toldRefused() {
        PaintedLines x = new PaintedLines();
        for (int n = 1; n <= 30; n++) {
            x.type('a');
        }
        int[] want = {0, 0, 0};
        for (int n = 0; n < 12; n++) {
            int kind = n % 4 == 3 ? 0 : n % 4;
            edges.due("refused", kind == 0 ? x.drops(0) : kind == 1 ? x.word() : x.type('a'), -2 - kind);
            want[kind]++;
            for (int what = 0; what <= 2; what++) {
                edges.due("told(" + what + ")", x.told(what), want[what]);
            }
        }
        x.told(-1);
        edges.due("told() refused", x.told(0), want[0] + 1);
    }

    private void toldHowMany() {
        PaintedLines x = new PaintedLines();
        String[] words = {"a", "b", "c", "d"};
        for (int n = 0; n < 12; n++) {
            x.rule(0, 0, n);
            edges.due("RULES", x.told(6), n + 1);
            edges.due("STATES BACK", x.told(7), Math.min(5, n + 1));
        }
        for (int n = 0; n < 4; n++) {
            Check.addWord(x, words[n]);
            edges.due("WORDS", x.told(5), n + 1);
        }
        for (int n = 0; n < 10; n++) {
            x.inserts(n);
            edges.due("LINES", x.told(4), n + 1);
        }
        for (int n = 1; n < 30; n++) {
            x.type(' ');
            edges.due("bytes of THE TEXT", x.told(3), n + 1);
        }
        int[] want = {0, 0, 0, 30, 10, 4, 12, 5};
        for (int what = 0; what <= 7; what++) {
            edges.due("all full: told(" + what + ")", x.told(what), want[what]);
        }
    }

    /** The digest by its numbers, reckoned without a limit and then cut to 64 bits. */
    private static long reckon(int... numbers) {
        BigInteger h = BigInteger.valueOf(2543);
        for (int number : numbers) {
            h = h.multiply(BigInteger.valueOf(31)).add(BigInteger.valueOf(number));
        }
        return h.longValue();
    }

    private void digestWraps() {
        edges.due("a new object", new PaintedLines().digest(), reckon(0, 0, 0, 0, 0, 0, 0, 0, 0));
        PaintedLines x = new PaintedLines();
        x.inserts(0);
        x.inserts(0);
        edges.due("beyond 64 bits", x.digest(), reckon(0, 0, 0, 0, 2, 0, 0, 2, 2,
                0, 0, 1, 0, -1, -1, 0, 0, 1, 0, -1, -1));
    }

    private void digestOfTold() {
        PaintedLines x = new PaintedLines();
        x.drops(0);
        x.drops(0);
        x.drops(0);
        x.back();
        x.back();
        for (int n = 0; n < 13; n++) {
            x.rule(0, 0, 0);
        }
        Check.addWord(x, "a");
        x.type('b');
        edges.due("digest", x.digest(), reckon(3, 2, 1, 2, 0, 1, 12, 5, 0));
        edges.due("digest leaves all as it is", x.digest(), reckon(3, 2, 1, 2, 0, 1, 12, 5, 0));
    }

    private void digestOfAnew() {
        PaintedLines x = new PaintedLines();
        x.inserts(0);
        edges.due("ANEW 1", x.digest(), reckon(0, 0, 0, 0, 1, 0, 0, 1, 1, 0, 0, 1, 0, -1, -1));
        x.sets(0);
        edges.due("ANEW 0", x.digest(), reckon(0, 0, 0, 0, 1, 0, 0, 2, 0, 0, 0, 1, 0, -1, -1));
    }

    private void digestOfLines() {
        PaintedLines x = Check.page("", "");
        Check.setLine(x, 0, "<Q\"");
        edges.due("LINE 0 first", x.digest(), reckon(0, 0, 0, 3, 2, 0, 0, 3, 2,
                3, 2, 2, 1, 34, 81, '<', 7, 0, 'Q', 7, 0, '"', 4, 0,
                0, 0, 2, 1, 34, 81));
    }

    private void digestOfBytes() {
        PaintedLines x = Check.page("a1");
        x.rule(1, -1, 99);
        x.rule(3, 0, 5);
        edges.due("byte by byte", x.digest(), reckon(0, 0, 0, 2, 1, 0, 2, 3, 1,
                2, 2, 1, 0, -1, -1, 'a', 1, 99, '1', 3, 5));
    }
}
