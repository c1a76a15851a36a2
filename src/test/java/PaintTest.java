/** Promises 13 to 15 and 17: at, of, span, painted, by what the document says of the language. */
final class PaintTest {
    private static final Check CHECK = new Check("PaintTest");
    private static final String FREE = "1 0 -1 -1";

    public static void main(String[] args) {
        plainCode();
        strings();
        escapes();
        stringsEndWithTheLine();
        remarks();
        codeInStrings();
        lineRemarks();
        fullPile();
        marks();
        marksThatAreNone();
        marksAboveWhatIsOpen();
        asks();
        spans();
        paintedBytes();
        CHECK.end();
    }

    private static void due(String bytes, String colours, String end) {
        PaintedLines x = Check.page(bytes);
        CHECK.due("colours of " + bytes, Check.colours(x, 0), colours);
        CHECK.due("end of " + bytes, Check.end(x, 0), end);
    }

    private static void plainCode() {
        due("", "", FREE);
        due("ab12cd 3", "11331103", FREE);
        due("az`{09/:", "11003300", FREE);
        due("aBcZ", "1010", FREE);
        due("()+]\\", "00000", FREE);
        due("}a}", "616", FREE);
        due("~ !", "000", FREE);
    }

    private static void strings() {
        due("\"a'1[#}\"b", "444444441", FREE);
        due("'a\"1[#}'b", "444444441", FREE);
        due("\"", "4", "2 1 34 -1");
        due("\"\"", "44", FREE);
        PaintedLines x = Check.page("a\"b", "", "c'#", "d\"e", "f");
        CHECK.due("line 0", Check.colours(x, 0), "144");
        CHECK.due("line 1", Check.end(x, 1), "2 1 34 -1");
        CHECK.due("line 2", Check.colours(x, 2), "444");
        CHECK.due("line 3", Check.colours(x, 3), "441");
        CHECK.due("line 4", Check.colours(x, 4), "1");
        CHECK.due("line 3's end", Check.end(x, 3), FREE);
    }

    private static void escapes() {
        due("\"\\\"a\"b", "477441", FREE);
        due("\"\\\\\"", "4774", FREE);
        due("\"\\{a\"", "47744", FREE);
        due("'\\'a'b", "477441", FREE);
        due("\"a\\", "444", "2 1 34 -1");
        due("\"\\\\\\", "4774", "2 1 34 -1");
        due("\"\\\"", "477", "2 1 34 -1");
        due("'\\a", "477", FREE);
        PaintedLines x = Check.page("\"\\", "\"a");
        CHECK.due("an escape ends with its line", Check.colours(x, 1), "41");
    }

    private static void stringsEndWithTheLine() {
        due("'", "4", FREE);
        due("'a{b", "4471", FREE);
        due("'a{\"b", "44744", FREE);
        due("'a{[b", "44755", FREE);
        due("\"a{'b{\"", "4474474", "3 0 -1 -1");
        due("\"a{'b{'", "4474474", "3 0 -1 -1");
        PaintedLines x = Check.page("'a", "b'c");
        CHECK.due("the next line", Check.colours(x, 1), "144");
        PaintedLines y = Check.page("\"a{'b", "c}d\"e");
        CHECK.due("the next line", Check.colours(y, 1), "17441");
    }

    private static void remarks() {
        due("a[b]c", "15551", FREE);
        due("[[a]\"b]c]d", "5555555101", FREE);
        due("[a'#{}\\<X", "555555555", "2 2 -1 -1");
        due("a]", "10", FREE);
        PaintedLines x = Check.page("[[", "a]", "b]c");
        CHECK.due("line 0", Check.end(x, 0), "3 2 -1 -1");
        CHECK.due("line 1", Check.colours(x, 1), "55");
        CHECK.due("line 1", Check.end(x, 1), "2 2 -1 -1");
        CHECK.due("line 2", Check.colours(x, 2), "551");
    }

    private static void codeInStrings() {
        due("\"a{b}c\"d", "44717441", FREE);
        due("\"{1}{2}\"", "47377374", FREE);
        due("\"{\"{a}\"}\"", "474717474", FREE);
        due("\"{[}]}\"", "4755574", FREE);
        due("\"{{}\"", "47074", FREE);
        due("\"{#}\"", "47555", "3 0 -1 -1");
        PaintedLines x = Check.page("\"{", "a}b\"c");
        CHECK.due("line 0", Check.end(x, 0), "3 0 -1 -1");
        CHECK.due("line 1", Check.colours(x, 1), "17441");
    }

    private static void lineRemarks() {
        due("a#b1\"[", "155555", FREE);
        due("#", "5", FREE);
        due("##", "55", FREE);
        PaintedLines x = Check.page("#a", "b");
        CHECK.due("the next line", Check.colours(x, 1), "1");
    }

    private static void fullPile() {
        due("[[[[[[[", "5555566", "6 2 -1 -1");
        due("[[[[[[]", "5555565", "5 2 -1 -1");
        due("\"{\"{\"{", "474746", "6 1 34 -1");
        due("\"{\"{\"a\"a", "47474441", "5 0 -1 -1");
        due("\"{\"{[[[", "4747566", "6 2 -1 -1");
        due("\"{\"{'{{'", "47474664", "5 0 -1 -1");
        PaintedLines x = Check.page("\"{\"{\"{", "}\"}\"}\"");
        CHECK.due("what did not come needs no end", Check.colours(x, 1), "447474");
        CHECK.due("its end", Check.end(x, 1), FREE);
        // CODE is never the sixth: below it lies a STRING, and CODE and STRING take turns.
        due("\"{\"{\"", "47474", "6 1 34 -1");
    }

    private static void marks() {
        PaintedLines x = Check.page("a<X b", "c\"1", "", "x", "XX", " X", "X", "c");
        CHECK.due("line 0", Check.colours(x, 0), "17701");
        CHECK.due("line 0", Check.end(x, 0), "1 0 -1 88");
        CHECK.due("line 1", Check.colours(x, 1), "444");
        CHECK.due("line 1", Check.end(x, 1), "1 0 -1 88");
        CHECK.due("line 2", Check.end(x, 2), "1 0 -1 88");
        CHECK.due("line 3", Check.colours(x, 3), "4");
        CHECK.due("line 4", Check.colours(x, 4), "44");
        CHECK.due("line 5", Check.colours(x, 5), "44");
        CHECK.due("line 5", Check.end(x, 5), "1 0 -1 88");
        CHECK.due("line 6", Check.colours(x, 6), "7");
        CHECK.due("line 6", Check.end(x, 6), FREE);
        CHECK.due("line 7", Check.colours(x, 7), "1");
        due("<A", "77", "1 0 -1 65");
        due("<Z#<B", "77555", "1 0 -1 90");
        due("<A<B", "7700", "1 0 -1 65");
        due("<<A", "077", "1 0 -1 65");
        PaintedLines y = Check.page("<A", "<B", "B", "A", "<B");
        CHECK.due("a mark in a marked line", Check.colours(y, 1), "44");
        CHECK.due("another letter", Check.colours(y, 2), "4");
        CHECK.due("the mark", Check.colours(y, 3), "7");
        CHECK.due("a mark in a new line", Check.end(y, 4), "1 0 -1 66");
    }

    private static void marksThatAreNone() {
        due("<", "0", FREE);
        due("<a", "01", FREE);
        due("< A", "000", FREE);
        due("<@", "00", FREE);
        due("<[", "05", "2 2 -1 -1");
        due("A", "0", FREE);
        due("\"<A", "444", "2 1 34 -1");
        due("\"{<A", "4700", "3 0 -1 -1");
        due("\"{<A}\"<B", "47007477", "1 0 -1 66");
        due("#<A", "555", FREE);
        PaintedLines x = Check.page("<A");
        x.erases(0, 1);
        CHECK.due("its letter gone", Check.colours(x, 0), "0");
        CHECK.due("its letter gone", Check.end(x, 0), FREE);
    }

    private static void marksAboveWhatIsOpen() {
        PaintedLines x = Check.page("<Q\"a", "b\"", "Q", "c\"d");
        CHECK.due("line 0", Check.colours(x, 0), "7744");
        CHECK.due("line 0", Check.end(x, 0), "2 1 34 81");
        CHECK.due("line 1", Check.colours(x, 1), "44");
        CHECK.due("line 1", Check.end(x, 1), "2 1 34 81");
        CHECK.due("line 2", Check.colours(x, 2), "7");
        CHECK.due("line 2", Check.end(x, 2), "2 1 34 -1");
        CHECK.due("line 3", Check.colours(x, 3), "441");
        PaintedLines y = Check.page("<Q'a", "Q");
        CHECK.due("a string with ' goes", Check.end(y, 0), "1 0 -1 81");
        CHECK.due("line 1", Check.end(y, 1), FREE);
    }

    private static void asks() {
        PaintedLines x = Check.page("a\"", "");
        CHECK.due("at(0, 1, 0)", x.at(0, 1, 0), '"');
        CHECK.due("at(0, 1, 1)", x.at(0, 1, 1), 4);
        CHECK.due("at(0, 1, 2)", x.at(0, 1, 2), 0);
        int[][] wrongAt = {{0, 2, 0}, {0, -1, 0}, {1, 0, 0}, {2, 0, 0}, {-1, 0, 0}, {0, 0, 3}, {0, 0, -1}};
        for (int[] a : wrongAt) {
            CHECK.due("at(" + a[0] + ", " + a[1] + ", " + a[2] + ")", x.at(a[0], a[1], a[2]), Check.BAD);
        }
        int[][] wrongOf = {{2, 0}, {-1, 0}, {0, 6}, {0, -1}};
        for (int[] a : wrongOf) {
            CHECK.due("of(" + a[0] + ", " + a[1] + ")", x.of(a[0], a[1]), Check.BAD);
        }
        int[][] wrongSpan = {{0, -1, 0}, {2, 0, 0}, {-1, 0, 0}, {0, 0, 3}, {0, 0, -1}, {0, 9, 3}};
        for (int[] a : wrongSpan) {
            CHECK.due("span(" + a[0] + ", " + a[1] + ", " + a[2] + ")", x.span(a[0], a[1], a[2]), Check.BAD);
        }
        CHECK.due("painted(-1)", x.painted(-1), Check.BAD);
        CHECK.due("painted(8)", x.painted(8), Check.BAD);
        CHECK.due("told(0)", x.told(0), wrongAt.length + wrongOf.length + wrongSpan.length + 2);
        CHECK.due("of(0, 0)", x.of(0, 0), 2);
        CHECK.due("of(1, 0)", x.of(1, 0), 0);
        CHECK.due("questions leave no state back", x.told(7), 2);
    }

    private static void spans() {
        PaintedLines x = Check.page("ab 1\"x\"'y'[]", "", "\"a", "b\"");
        CHECK.due("of(0, 1)", x.of(0, 1), 5);
        int[][] want = {{0, 2, 1}, {2, 1, 0}, {3, 1, 3}, {4, 6, 4}, {10, 2, 5}};
        for (int i = 0; i < want.length; i++) {
            for (int what = 0; what <= 2; what++) {
                CHECK.due("span(0, " + i + ", " + what + ")", x.span(0, i, what), want[i][what]);
            }
        }
        for (int what = 0; what <= 2; what++) {
            CHECK.due("span(0, 5, " + what + ")", x.span(0, 5, what), Check.NONE);
            CHECK.due("span(1, 0, " + what + ")", x.span(1, 0, what), Check.NONE);
        }
        CHECK.due("span(0, max, 0)", x.span(0, Integer.MAX_VALUE, 0), Check.NONE);
        CHECK.due("of(1, 1)", x.of(1, 1), 0);
        CHECK.due("of(3, 1)", x.of(3, 1), 1);
        CHECK.due("NONE is not refused", x.told(0), 0);
        PaintedLines y = Check.page("#23456789 123456789 123456789 ");
        CHECK.due("of a line of 30: of(0, 1)", y.of(0, 1), 1);
        CHECK.due("of a line of 30: span(0, 0, 1)", y.span(0, 0, 1), 30);
        CHECK.due("of a line of 30: painted(5)", y.painted(5), 30);
    }

    private static void paintedBytes() {
        PaintedLines x = Check.page("if a1}", "\"{2", "}\"[r", "]9 ?");
        Check.addWord(x, "if");
        int[] want = {3, 1, 2, 3, 2, 3, 1, 2};
        for (int colour = 0; colour <= 7; colour++) {
            CHECK.due("painted(" + colour + ")", x.painted(colour), want[colour]);
        }
        x.drops(0);
        CHECK.due("painted(2), line 0 gone", x.painted(2), 0);
        CHECK.due("painted(3), line 0 gone", x.painted(3), 2);
    }
}
