/** "Terms", its part on a CHANGE: which LINES are painted anew, and ANEW. */
final class ChangeEdges {
    private final Edges edges;

    ChangeEdges(Edges edges) {
        this.edges = edges;
    }

    void all() {
        edges.term("A CHANGE: LINES from the first one that was changed (its bytes are others, it is new, one"
                + " ahead of it went) on are PAINTED anew,", this::fromTheFirst);
        edges.term("up to the first LINE such that no LINE behind it was changed or is new,", this::noneBehind);
        edges.term("and that the STATE behind it is as it was", this::stateAsItWas);
        edges.term("behind that very LINE", this::thatVeryLine);
        edges.term("when it was last PAINTED", this::lastPainted);
        edges.term("(a new LINE was not;", this::newLine);
        edges.term("of a LINE that went: the LINE that stands in its place is the first one, if there is one),",
                this::lineThatWent);
        edges.term("or the last one.", this::lastLine);
        edges.term("ANEW: how many LINES that were by the last CHANGE.", this::lastChange);
        edges.term("word(), unword() (also if none goes) are CHANGES by which all LINES are PAINTED anew.",
                this::wordsPaintAll);
    }

    private static String paint(PaintedLines x) {
        StringBuilder all = new StringBuilder();
        for (int k = 0; k < x.told(4); k++) {
            all.append(k == 0 ? "" : "|").append(Check.colours(x, k));
        }
        return all.toString();
    }

    private void fromTheFirst() {
        for (int k = 0; k <= 3; k++) {
            PaintedLines x = Check.page("a", "b", "c", "d");
            x.puts(k, 0, '"');
            edges.due("bytes of LINE " + k + " are others", x.anew(), 4 - k);
            x.erases(k, 0);
            edges.due("bytes of LINE " + k + " are others again", x.anew(), 4 - k);
            Check.insertLine(x, k, "[");
            edges.due("LINE " + k + " is new", x.anew(), 5 - k);
            x.drops(k);
            edges.due("one ahead of LINE " + k + " went", x.anew(), 4 - k);
            edges.due("paint", paint(x), "1|1|1|1");
        }
    }

    private void noneBehind() {
        PaintedLines x = Check.page("a", "b", "c");
        x.splits(0, 1);
        edges.due("the STATE behind LINE 0 is as it was, but LINE 1 is new", x.anew(), 3);
        PaintedLines y = Check.page("ab", "c");
        y.splits(1, 0);
        edges.due("the new LINE is the last one", y.anew(), 2);
        edges.due("paint", paint(y), "11||1");
    }

    private void stateAsItWas() {
        PaintedLines x = Check.page("[", "a", "]b", "c");
        Check.setLine(x, 0, "[[");
        edges.due("a PILE higher by one", x.anew(), 4);
        Check.setLine(x, 0, "d[[");
        edges.due("a like STATE", x.anew(), 1);
        Check.setLine(x, 1, "a]");
        edges.due("to the end, as each one is lower by one", x.anew(), 3);
        PaintedLines y = Check.page("\"{[", "a", "b");
        Check.setLine(y, 0, "[[[");
        edges.due("other MODES below the highest", y.anew(), 3);
        Check.setLine(y, 0, "<A[[[");
        edges.due("a MARK", y.anew(), 3);
        Check.setLine(y, 0, "<B[[[");
        edges.due("another MARK", y.anew(), 3);
        Check.setLine(y, 0, "\"");
        edges.due("another MODE", y.anew(), 3);
        PaintedLines z = Check.page("a", "b]", "c", "d");
        Check.setLine(z, 0, "[");
        edges.due("up to the LINE that ends it", z.anew(), 2);
        edges.due("paint", paint(z), "5|55|1|1");
        Check.setLine(z, 0, "'\"{['");
        edges.due("a STRING that goes with its LINE", z.anew(), 2);
        Check.setLine(z, 0, "'");
        edges.due("the same STATE by other bytes", z.anew(), 1);
    }

    private void thatVeryLine() {
        PaintedLines x = Check.page("a", "\"b", "c\"", "d");
        x.drops(0);
        edges.due("not behind the LINE that stood in its place", x.anew(), 1);
        Check.insertLine(x, 0, "e");
        edges.due("a LINE that has moved down", x.anew(), 2);
        edges.due("paint", paint(x), "1|44|44|1");
        PaintedLines y = Check.page("[", "a", "]", "b");
        y.splits(0, 1);
        edges.due("LINES behind a split", y.anew(), 3);
        y.drops(0);
        edges.due("paint", paint(y), "|1|0|1");
        edges.due("each LINE's own STATE is another, but the last two's", y.anew(), 3);
    }

    private void lastPainted() {
        PaintedLines x = Check.page("a", "b", "c");
        x.puts(0, 0, '[');
        x.puts(0, 0, 'z');
        edges.due("as in the CHANGE ahead", x.anew(), 1);
        x.erases(0, 1);
        edges.due("as it was two CHANGES ago", x.anew(), 3);
        x.puts(2, 0, '"');
        x.puts(1, 0, 'y');
        edges.due("a LINE that was not painted since", x.anew(), 1);
        x.puts(0, 0, '"');
        edges.due("all", x.anew(), 3);
        x.back();
        x.puts(0, 0, 'w');
        edges.due("a STATE that went back", x.anew(), 1);
    }

    private void newLine() {
        PaintedLines x = Check.page("a", "b", "c");
        Check.insertLine(x, 1, "");
        edges.due("an empty LINE and the one behind it", x.anew(), 2);
        Check.insertLine(x, 0, "a");
        edges.due("ahead of all", x.anew(), 2);
        x.inserts(5);
        edges.due("behind all", x.anew(), 1);
        PaintedLines y = Check.page("a", "b", "c");
        y.drops(2);
        y.inserts(0);
        edges.due("though a LINE like it went", y.anew(), 2);
        y.back();
        y.inserts(0);
        edges.due("though it was there ahead of going back", y.anew(), 2);
        PaintedLines z = new PaintedLines();
        z.inserts(0);
        edges.due("the only one", z.anew(), 1);
    }

    private void lineThatWent() {
        PaintedLines x = Check.page("a", "b", "c", "d");
        x.drops(1);
        edges.due("the LINE in its place alone", x.anew(), 1);
        x.drops(0);
        edges.due("LINE 0", x.anew(), 1);
        x.drops(1);
        edges.due("none stands in the last one's place", x.anew(), 0);
        x.drops(0);
        edges.due("none stands in the only one's place", x.anew(), 0);
        PaintedLines y = Check.page("[", "a", "b", "]", "c");
        y.drops(0);
        edges.due("as far as the STATE is another", y.anew(), 3);
        edges.due("paint", paint(y), "1|1|0|1");
    }

    private void lastLine() {
        PaintedLines x = Check.page("a", "b", "c", "d", "e", "f", "g", "h", "i", "j");
        x.puts(0, 0, '"');
        edges.due("ten LINES", x.anew(), 10);
        x.puts(9, 0, '[');
        edges.due("the last one", x.anew(), 1);
        x.puts(9, 0, '"');
        edges.due("the last one, its STATE another", x.anew(), 1);
        edges.due("its paint", Check.colours(x, 9), "455");
        PaintedLines y = Check.page("\"");
        y.erases(0, 0);
        edges.due("the only one", y.anew(), 1);
    }

    private void lastChange() {
        PaintedLines x = Check.page("a", "b", "c");
        x.puts(0, 0, '"');
        x.rule(4, -1, 9);
        x.type('a');
        x.clear();
        edges.due("no CHANGE came behind", x.anew(), 3);
        x.puts(0, 30, 'a');
        x.drops(3);
        x.word();
        x.unword(26);
        edges.due("what is refused is no CHANGE", x.anew(), 3);
        x.puts(1, 0, 'z');
        edges.due("a CHANGE", x.anew(), 1);
        x.drops(2);
        edges.due("a CHANGE that paints none", x.anew(), 0);
    }

    private void wordsPaintAll() {
        PaintedLines x = Check.page("ab", "c", "ab");
        Check.addWord(x, "ab");
        edges.due("word()", x.anew(), 3);
        edges.due("paint", paint(x), "22|1|22");
        x.puts(1, 0, 'c');
        Check.addWord(x, "zz");
        edges.due("a WORD of no LINE", x.anew(), 3);
        x.puts(1, 0, 'c');
        edges.due("unword(1)", x.unword(1), 0);
        edges.due("none goes", x.anew(), 3);
        x.puts(1, 0, 'c');
        edges.due("unword(0)", x.unword(0), 1);
        edges.due("one goes", x.anew(), 3);
        edges.due("paint", paint(x), "11|1111|11");
        PaintedLines y = new PaintedLines();
        Check.addWord(y, "a");
        y.unword(0);
        edges.due("no LINES", y.anew(), 0);
        PaintedLines z = Check.page("", "", "", "", "", "", "", "", "", "");
        z.unword(25);
        edges.due("ten LINES", z.anew(), 10);
    }
}
