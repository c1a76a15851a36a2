/** "Terms", its part on SPANS, RULES and SHADES. */
final class ShadeEdges {
    private final Edges edges;

    ShadeEdges(Edges edges) {
        this.edges = edges;
    }

    void all() {
        edges.term("SPANS of a LINE: its bytes parted, from its left, into as few rows of like COLOUR as can"
                + " be.", this::spans);
        edges.term("SHADES: RULES told (12 at most, as they come)", this::twelveRules);
        edges.term("give a SHADE (0 .. 99)", this::shades);
        edges.term("to a COLOUR (or to any, -1)", this::colours);
        edges.term("in a MODE (0 CODE, 1 STRING, 2 REMARK, or any, -1):", this::modes);
        edges.term("that of a byte is by its COLOUR and the highest MODE ahead of that byte", this::aheadOfTheByte);
        edges.term("(of a LINE with a MARK: as if it were STRING):", this::lineWithAMark);
        edges.term("of the RULES that fit,", this::rulesThatFit);
        edges.term("one for a COLOUR and a MODE goes ahead of one for a COLOUR alone,",
                () -> goesAhead(4, 1, 4, -1));
        edges.term("that ahead of one for a MODE alone,", () -> goesAhead(4, -1, -1, 1));
        edges.term("that ahead of one for any;", () -> goesAhead(-1, 1, -1, -1));
        edges.term("of like ones the last told;", this::lastTold);
        edges.term("none fits: 0.", this::noneFits);
        edges.term("(Bytes of one word, figures, # and what is behind it, < with its letter, 92 with what is"
                + " behind it: each by the MODE ahead of the first of them.)", this::firstOfThem);
    }

    /** A rule for each mode, so that a shade tells the mode. */
    private static PaintedLines byMode(String... lines) {
        PaintedLines x = Check.page(lines);
        x.rule(-1, 0, 10);
        x.rule(-1, 1, 11);
        x.rule(-1, 2, 12);
        return x;
    }

    private static String spansOf(PaintedLines x, int k) {
        StringBuilder all = new StringBuilder();
        for (int i = 0; i < x.of(k, 1); i++) {
            all.append(i == 0 ? "" : " ").append(x.span(k, i, 0)).append('+').append(x.span(k, i, 1));
            all.append(':').append(x.span(k, i, 2));
        }
        return all.toString();
    }

    private void spans() {
        PaintedLines x = Check.page("", "a", "aB", "a1a1", "\"a\"'b'", "[]#[", " \"", "]a[b\"");
        String[] want = {"", "0+1:1", "0+1:1 1+1:0", "0+1:1 1+1:3 2+1:1 3+1:3", "0+6:4", "0+4:5", "0+1:0 1+1:4",
            "0+5:4"};
        for (int k = 0; k < want.length; k++) {
            edges.due("LINE " + k, spansOf(x, k), want[k]);
        }
        PaintedLines y = Check.page("a1".repeat(15), "9".repeat(30), "if a");
        edges.due("30 SPANS", y.of(0, 1), 30);
        edges.due("the last of them", y.span(0, 29, 0), 29);
        edges.due("one SPAN of 30", spansOf(y, 1), "0+30:3");
        edges.due("as LINES stand", spansOf(y, 2), "0+2:1 2+1:0 3+1:1");
        Check.addWord(y, "if");
        edges.due("another COLOUR", spansOf(y, 2), "0+2:2 2+1:0 3+1:1");
    }

    private void twelveRules() {
        PaintedLines x = Check.page("a");
        for (int number = 0; number < 12; number++) {
            edges.due("RULE " + number, x.rule(1, 0, 50 + number), number);
            edges.due("its SHADE", x.at(0, 0, 2), 50 + number);
        }
        edges.due("a thirteenth", x.rule(1, 0, 99), Check.FULL);
        edges.due("its SHADE", x.at(0, 0, 2), 61);
        edges.due("how many", x.told(6), 12);
    }

    private void shades() {
        PaintedLines x = Check.page("a");
        edges.due("SHADE 99", x.rule(1, 0, 99), 0);
        edges.due("at", x.at(0, 0, 2), 99);
        edges.due("SHADE 0", x.rule(1, 0, 0), 1);
        edges.due("at", x.at(0, 0, 2), 0);
        edges.due("SHADE 100", x.rule(1, 0, 100), Check.BAD);
        edges.due("SHADE -1", x.rule(1, 0, -1), Check.BAD);
        edges.due("at", x.at(0, 0, 2), 0);
    }

    private void colours() {
        for (int colour = -1; colour <= 7; colour++) {
            PaintedLines x = Check.page(" a i1\"\"[]}<A");
            Check.addWord(x, "i");
            edges.due("the rule for " + colour, x.rule(colour, -1, 5), 0);
            StringBuilder want = new StringBuilder();
            for (char c : "010234455677".toCharArray()) {
                want.append(want.length() == 0 ? "" : " ").append(colour == -1 || colour == c - '0' ? 5 : 0);
            }
            edges.due("SHADES by " + colour, Check.shades(x, 0), want.toString());
        }
        PaintedLines y = Check.page("a");
        edges.due("COLOUR -2", y.rule(-2, -1, 5), Check.BAD);
        edges.due("COLOUR 8", y.rule(8, -1, 5), Check.BAD);
    }

    private void modes() {
        String[] want = {"5 5 5 5 5 5", "5 5 0 0 0 0", "0 0 5 5 0 0", "0 0 0 0 5 5"};
        for (int mode = -1; mode <= 2; mode++) {
            PaintedLines x = Check.page("a\"", "b\\", "\"[", "c]");
            edges.due("the rule for " + mode, x.rule(-1, mode, 5), 0);
            String got = Check.shades(x, 0) + " " + Check.shades(x, 1) + " " + Check.shades(x, 3);
            edges.due("SHADES by " + mode, got, want[mode + 1]);
        }
        PaintedLines y = Check.page("a");
        edges.due("MODE -2", y.rule(-1, -2, 5), Check.BAD);
        edges.due("MODE 3", y.rule(-1, 3, 5), Check.BAD);
    }

    private void aheadOfTheByte() {
        PaintedLines x = byMode("a\"b\"c[d]e", "\"{f}\"}]", "[[g]", "h]i", "\"", "", "{\"{\"{[");
        edges.due("into and out of both", Check.shades(x, 0), "10 10 11 11 10 10 12 12 10");
        edges.due("put CODE", Check.shades(x, 1), "10 11 10 10 11 10 10");
        edges.due("REMARKS", Check.shades(x, 2), "10 12 12 12");
        edges.due("from the LINE ahead", Check.shades(x, 3), "12 12 10");
        edges.due("a STRING from two LINES ahead", Check.shades(x, 6), "11 10 11 10 11 11");
        PaintedLines y = byMode("[[[[[[", "]]]]]]", "\"{\"{\"{");
        edges.due("what would come onto a PILE of 6", Check.shades(y, 0), "10 12 12 12 12 12");
        edges.due("down again", Check.shades(y, 1), "12 12 12 12 12 10");
        edges.due("STRINGS", Check.shades(y, 2), "10 11 10 11 10 11");
    }

    private void lineWithAMark() {
        PaintedLines x = byMode("a<Q[", "b1", "Q", "c]d", "<R", "R", "R");
        edges.due("the LINE that has <Q", Check.shades(x, 0), "10 10 10 10");
        edges.due("a LINE with the MARK, over a REMARK", Check.shades(x, 1), "11 11");
        edges.due("the LINE that is the MARK", Check.shades(x, 2), "11");
        edges.due("the LINE behind it", Check.shades(x, 3), "12 12 10");
        edges.due("over CODE", Check.shades(x, 5), "11");
        edges.due("the letter without a MARK", Check.shades(x, 6), "10");
    }

    private void rulesThatFit() {
        PaintedLines x = Check.page("a\"b");
        x.rule(1, 1, 20);
        x.rule(1, 2, 21);
        x.rule(4, 2, 22);
        x.rule(3, -1, 23);
        x.rule(-1, 2, 24);
        edges.due("none of them", Check.shades(x, 0), "0 0 0");
        x.rule(-1, -1, 25);
        edges.due("the one for any", Check.shades(x, 0), "25 25 25");
        x.rule(4, 0, 26);
        edges.due("one for COLOUR 4 in CODE", Check.shades(x, 0), "25 26 25");
    }

    /** Byte 2 of the line has colour 4 in STRING; the first rule goes ahead, told first or last. */
    private void goesAhead(int colour, int mode, int otherColour, int otherMode) {
        PaintedLines x = Check.page("a\"b");
        x.rule(colour, mode, 31);
        x.rule(otherColour, otherMode, 32);
        edges.due("told first", x.at(0, 2, 2), 31);
        PaintedLines y = Check.page("a\"b");
        y.rule(otherColour, otherMode, 32);
        edges.due("the other alone", y.at(0, 2, 2), 32);
        y.rule(colour, mode, 31);
        edges.due("told last", y.at(0, 2, 2), 31);
        y.rule(otherColour, otherMode, 33);
        edges.due("the other told again", y.at(0, 2, 2), 31);
        y.rule(colour, mode, 0);
        edges.due("with SHADE 0", y.at(0, 2, 2), 0);
    }

    private void lastTold() {
        int[][] kinds = {{-1, -1}, {-1, 1}, {4, -1}, {4, 1}};
        for (int[] kind : kinds) {
            PaintedLines x = Check.page("\"b");
            x.rule(kind[0], kind[1], 7);
            x.rule(kind[0], kind[1], 90);
            x.rule(kind[0], kind[1], 8);
            edges.due("for " + kind[0] + ", " + kind[1], x.at(0, 1, 2), 8);
            x.back();
            edges.due("the last one gone", x.at(0, 1, 2), 90);
        }
    }

    private void noneFits() {
        PaintedLines x = Check.page("a\"b[");
        edges.due("no RULE at all", Check.shades(x, 0), "0 0 0 0");
        x.rule(4, 1, 50);
        edges.due("one for others", Check.shades(x, 0), "0 0 50 50");
        x.back();
        edges.due("it went", Check.shades(x, 0), "0 0 0 0");
    }

    private void firstOfThem() {
        PaintedLines x = byMode("ab12#\"['", "<Q", "Q", "\"\\\"\\{\\\\", "\"<R#\"c[", "R", "[", "ab12#<S");
        edges.due("a word, figures, #", Check.shades(x, 0), "10 10 10 10 10 10 10 10");
        edges.due("< with its letter", Check.shades(x, 1), "10 10");
        edges.due("92 with what is behind it", Check.shades(x, 3), "10 11 11 11 11 11 11");
        edges.due("< with its letter and # behind a STRING", Check.shades(x, 4), "11 10 10 10 10 10 10");
        edges.due("none of these in a REMARK", Check.shades(x, 7), "12 12 12 12 12 12 12");
        PaintedLines y = byMode("\"\\\"a\"b");
        edges.due("a STRING's end behind them", Check.shades(y, 0), "10 11 11 11 11 10");
    }
}
