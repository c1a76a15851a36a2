/** Promise 16: anew, by each call that is a change. */
final class AnewTest {
    private static final Check CHECK = new Check("AnewTest");

    public static void main(String[] args) {
        inserts();
        sets();
        drops();
        putsAndErases();
        splits();
        wholeStateCounts();
        notByOthers();
        CHECK.end();
    }

    private static void inserts() {
        PaintedLines x = new PaintedLines();
        CHECK.due("ahead of any change", x.anew(), 0);
        Check.insertLine(x, 0, "a");
        CHECK.due("the first line", x.anew(), 1);
        Check.insertLine(x, 1, "b");
        Check.insertLine(x, 2, "c");
        CHECK.due("behind all", x.anew(), 1);
        Check.insertLine(x, 0, "d");
        CHECK.due("ahead of all: it and the next", x.anew(), 2);
        Check.insertLine(x, 0, "\"");
        CHECK.due("all become another", x.anew(), 5);
        Check.insertLine(x, 1, "\"");
        CHECK.due("all become another again", x.anew(), 5);
        CHECK.due("as before", Check.colours(x, 2), "1");
        PaintedLines y = Check.page("a", "b");
        y.drops(1);
        Check.insertLine(y, 0, "c");
        CHECK.due("a line is new, though another went", y.anew(), 2);
    }

    private static void sets() {
        PaintedLines x = Check.page("a", "[b]", "c]", "d");
        Check.setLine(x, 0, "z");
        CHECK.due("the state stays", x.anew(), 1);
        x.sets(0);
        CHECK.due("the same", x.anew(), 0);
        Check.setLine(x, 0, "[");
        CHECK.due("till the remark's end", x.anew(), 3);
        CHECK.due("line 1", Check.colours(x, 1), "555");
        CHECK.due("line 2", Check.colours(x, 2), "55");
        CHECK.due("line 3", Check.colours(x, 3), "1");
        Check.setLine(x, 3, "");
        CHECK.due("the last line", x.anew(), 1);
        Check.setLine(x, 3, "");
        CHECK.due("the same, empty", x.anew(), 0);
    }

    private static void drops() {
        PaintedLines x = Check.page("\"", "a", "\"", "b", "c");
        x.drops(4);
        CHECK.due("the last line", x.anew(), 0);
        x.drops(1);
        CHECK.due("the state stays", x.anew(), 1);
        x.drops(0);
        CHECK.due("to the end", x.anew(), 2);
        CHECK.due("lines", Check.lines(x), "\"|b");
        CHECK.due("line 1", Check.colours(x, 1), "4");
        x.drops(1);
        x.drops(0);
        CHECK.due("the only line", x.anew(), 0);
        PaintedLines y = Check.page("\"a", "b\"", "c", "d");
        y.drops(0);
        CHECK.due("each line's own state is compared", y.anew(), 3);
    }

    private static void putsAndErases() {
        PaintedLines x = Check.page("a", "b", "\"c", "d");
        x.puts(0, 1, '\'');
        CHECK.due("a string that ends with its line", x.anew(), 1);
        x.puts(0, 0, '"');
        CHECK.due("a string that goes on", x.anew(), 4);
        CHECK.due("line 1", Check.colours(x, 1), "4");
        CHECK.due("line 2", Check.colours(x, 2), "41");
        x.erases(0, 0);
        CHECK.due("it goes", x.anew(), 4);
        x.erases(2, 1);
        CHECK.due("a byte of it", x.anew(), 1);
        x.puts(3, 1, '"');
        CHECK.due("the last line", x.anew(), 1);
    }

    private static void splits() {
        PaintedLines x = Check.page("ab", "c", "d", "e");
        x.splits(0, 1);
        CHECK.due("both and the next", x.anew(), 3);
        x.splits(4, 1);
        CHECK.due("the last, behind its bytes", x.anew(), 2);
        x.splits(0, 0);
        CHECK.due("ahead of its bytes", x.anew(), 3);
        PaintedLines y = Check.page("'a\"b", "c", "d", "e");
        y.splits(0, 2);
        CHECK.due("to the end", y.anew(), 5);
        CHECK.due("line 1", Check.colours(y, 1), "44");
        CHECK.due("line 2", Check.colours(y, 2), "4");
        PaintedLines z = Check.page("[", "]", "c", "d");
        z.splits(0, 1);
        CHECK.due("what is new has no state, though it is the same", z.anew(), 3);
    }

    private static void wholeStateCounts() {
        PaintedLines x = Check.page("<A", "b", "c");
        Check.setLine(x, 0, "<B");
        CHECK.due("another mark", x.anew(), 3);
        CHECK.due("of(2, 5)", x.of(2, 5), 66);
        PaintedLines y = Check.page("[", "b", "c");
        Check.setLine(y, 0, "\"");
        CHECK.due("another mode", y.anew(), 3);
        Check.setLine(y, 0, "\"{[");
        CHECK.due("a pile of 4", y.anew(), 3);
        Check.setLine(y, 0, "[[[");
        CHECK.due("a pile of 4, other below", y.anew(), 3);
        Check.setLine(y, 1, "b]]");
        CHECK.due("a lower one", y.anew(), 2);
        CHECK.due("of(2, 2)", y.of(2, 2), 2);
        PaintedLines z = Check.page("<A", "B", "A", "d", "e");
        Check.setLine(z, 0, "<B");
        CHECK.due("till both marks have ended", z.anew(), 3);
        CHECK.due("line 1", Check.colours(z, 1), "7");
        CHECK.due("line 2", Check.colours(z, 2), "0");
    }

    private static void notByOthers() {
        PaintedLines x = Check.page("a", "b");
        x.unword(3);
        x.type('z');
        x.clear();
        x.rule(0, 0, 0);
        x.digest();
        x.painted(0);
        CHECK.due("calls that are no change", x.anew(), 2);
        x.inserts(9);
        x.sets(9);
        x.drops(9);
        x.puts(0, 9, 'a');
        x.erases(0, 9);
        x.splits(0, 9);
        x.word();
        x.unword(99);
        CHECK.due("calls that are refused", x.anew(), 2);
        x.back();
        CHECK.due("back", x.anew(), 0);
    }
}
