/** Promise 18: back. */
final class BackTest {
    private static final Check CHECK = new Check("BackTest");

    public static void main(String[] args) {
        none();
        eachCall();
        fiveAtMost();
        refusedCallsLeaveNone();
        paintAndStatesGoBack();
        changesBehindABack();
        wordsAndRulesGoBackWhole();
        fullPage();
        CHECK.end();
    }

    private static void none() {
        PaintedLines x = new PaintedLines();
        CHECK.due("back of none", x.back(), Check.NO);
        CHECK.due("told(1)", x.told(1), 1);
        x.inserts(0);
        CHECK.due("back", x.back(), 0);
        CHECK.due("told(4)", x.told(4), 0);
        CHECK.due("back of none", x.back(), Check.NO);
        CHECK.due("told(1)", x.told(1), 2);
    }

    /** All that a state back holds; the text, refusals and anew are none of it. */
    private static String whole(PaintedLines x) {
        StringBuilder all = new StringBuilder();
        for (int k = 0; k < x.told(4); k++) {
            all.append(Check.line(x, k)).append('|').append(Check.colours(x, k)).append('|');
            all.append(Check.shades(x, k)).append('|').append(Check.end(x, k)).append('\n');
        }
        return all.append(x.told(5)).append(' ').append(x.told(6)).toString();
    }

    private static PaintedLines some() {
        PaintedLines x = Check.page("if \"a", "b{if}\"", "[c");
        Check.addWord(x, "if");
        x.rule(2, -1, 44);
        Check.write(x, "b");
        return x;
    }

    private static void call(PaintedLines x, int which) {
        switch (which) {
            case 0 -> x.inserts(1);
            case 1 -> x.sets(0);
            case 2 -> x.drops(0);
            case 3 -> x.puts(0, 0, '[');
            case 4 -> x.erases(0, 3);
            case 5 -> x.splits(1, 2);
            case 6 -> x.word();
            case 7 -> x.unword('i' - 'a');
            default -> x.rule(2, 0, 55);
        }
    }

    private static void eachCall() {
        for (int which = 0; which <= 8; which++) {
            PaintedLines x = some();
            String before = whole(x);
            call(x, which);
            CHECK.isTrue("call " + which + " changes", !before.equals(whole(x)));
            CHECK.due("call " + which + ": told(7)", x.told(7), 5);
            CHECK.due("call " + which + ": back", x.back(), 4);
            CHECK.due("call " + which + ": all goes back", whole(x), before);
            CHECK.due("call " + which + ": anew", x.anew(), 0);
            CHECK.due("call " + which + ": the text stays", x.told(3), 1);
        }
    }

    private static void fiveAtMost() {
        PaintedLines x = new PaintedLines();
        for (int n = 1; n <= 8; n++) {
            Check.insertLine(x, n - 1, "a");
            CHECK.due("told(7) behind call " + n, x.told(7), Math.min(n, 5));
        }
        for (int n = 4; n >= 0; n--) {
            CHECK.due("back, " + n + " left", x.back(), n);
            CHECK.due("told(7)", x.told(7), n);
            CHECK.due("told(4)", x.told(4), 3 + n);
        }
        CHECK.due("older ones are lost", x.back(), Check.NO);
        CHECK.due("told(4)", x.told(4), 3);
        x.inserts(0);
        CHECK.due("one more", x.told(7), 1);
        CHECK.due("it can go back", x.back(), 0);
    }

    private static void refusedCallsLeaveNone() {
        PaintedLines x = Check.page("a");
        x.inserts(7);
        x.sets(7);
        x.drops(7);
        x.puts(7, 0, 'a');
        x.erases(7, 0);
        x.splits(7, 0);
        x.unword(77);
        x.rule(0, 0, 777);
        Check.addWord(x, "A");
        CHECK.due("told(7)", x.told(7), 1);
        x.sets(0);
        x.sets(0);
        CHECK.due("told(7), though nothing changes", x.told(7), 3);
        CHECK.due("back", x.back(), 2);
        CHECK.due("refusals go not back", x.told(0), 8);
    }

    private static void paintAndStatesGoBack() {
        PaintedLines x = Check.page("a", "b", "c");
        x.puts(0, 0, '"');
        CHECK.due("line 2", Check.colours(x, 2), "4");
        x.back();
        CHECK.due("line 2", Check.colours(x, 2), "1");
        CHECK.due("of(2, 2)", x.of(2, 2), 1);
        x.drops(2);
        x.drops(1);
        x.back();
        x.back();
        CHECK.due("lines", Check.lines(x), "a|b|c");
        CHECK.due("of(0, 1)", x.of(2, 1), 1);
    }

    private static void changesBehindABack() {
        PaintedLines x = Check.page("a", "b", "c");
        x.puts(0, 0, '"');
        x.back();
        x.puts(0, 0, 'z');
        CHECK.due("the states went back with the lines", x.anew(), 1);
        x.drops(0);
        x.back();
        x.puts(0, 0, '"');
        CHECK.due("to the end", x.anew(), 3);
        x.back();
        Check.insertLine(x, 1, "n");
        CHECK.due("a new line and the next", x.anew(), 2);
        CHECK.due("lines", Check.lines(x), "za|n|b|c");
    }

    private static void wordsAndRulesGoBackWhole() {
        PaintedLines x = Check.page("ab cd ef");
        Check.addWord(x, "ab");
        Check.addWord(x, "cd");
        x.unword(0);
        CHECK.due("cd alone", Check.colours(x, 0), "11022011");
        x.back();
        CHECK.due("ab and cd", Check.colours(x, 0), "22022011");
        x.back();
        CHECK.due("ab alone", Check.colours(x, 0), "22011011");
        x.rule(1, 0, 5);
        x.rule(1, -1, 6);
        x.back();
        x.back();
        CHECK.due("no rule", x.at(0, 3, 2), 0);
        x.rule(-1, -1, 7);
        CHECK.due("a rule that was gone back behind is not ahead", x.at(0, 3, 2), 7);
    }

    private static void fullPage() {
        PaintedLines x = new PaintedLines();
        for (int k = 0; k < 10; k++) {
            Check.insertLine(x, k, "line " + k + " is not the last   30");
        }
        String before = whole(x);
        x.drops(0);
        x.drops(8);
        CHECK.due("told(4)", x.told(4), 8);
        x.back();
        x.back();
        CHECK.due("ten lines", whole(x), before);
        x.sets(9);
        CHECK.due("the last one's own text", x.anew(), 0);
    }
}
