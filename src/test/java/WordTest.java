/** Promises 10 and 11: word, unword. */
final class WordTest {
    private static final Check CHECK = new Check("WordTest");

    public static void main(String[] args) {
        words();
        notAWord();
        noGoesAheadOfFull();
        unwords();
        wordsPaint();
        wordsPaintAllAnew();
        CHECK.end();
    }

    private static int word(PaintedLines x, String text) {
        Check.write(x, text);
        return x.word();
    }

    private static void words() {
        PaintedLines x = new PaintedLines();
        CHECK.due("word a", word(x, "a"), 0);
        CHECK.due("the text stays", x.told(3), 1);
        CHECK.due("word abcde", word(x, "abcde"), 1);
        CHECK.due("word z", word(x, "z"), 2);
        CHECK.due("word ab", word(x, "ab"), 3);
        CHECK.due("word ac, a fifth one", word(x, "ac"), Check.FULL);
        CHECK.due("told(5)", x.told(5), 4);
        CHECK.due("told(7)", x.told(7), 4);
    }

    private static void notAWord() {
        PaintedLines x = new PaintedLines();
        String[] wrong = {"", "abcdef", "aB", "A", "a1", "1", "a ", " a", "`", "{"};
        for (String text : wrong) {
            CHECK.due("word '" + text + "'", word(x, text), Check.NO);
        }
        word(x, "ab");
        CHECK.due("word ab again", word(x, "ab"), Check.NO);
        CHECK.due("told(1)", x.told(1), wrong.length + 1);
        CHECK.due("told(5)", x.told(5), 1);
        CHECK.due("told(7)", x.told(7), 1);
    }

    private static void noGoesAheadOfFull() {
        PaintedLines x = new PaintedLines();
        String[] four = {"a", "b", "c", "d"};
        for (String text : four) {
            word(x, text);
        }
        CHECK.due("one of four again", word(x, "d"), Check.NO);
        CHECK.due("no word, with four", word(x, "toolong"), Check.NO);
        CHECK.due("a fifth one", word(x, "e"), Check.FULL);
    }

    private static void unwords() {
        PaintedLines x = new PaintedLines();
        String[] four = {"ab", "zz", "ac", "za"};
        for (String text : four) {
            word(x, text);
        }
        CHECK.due("unword(-1)", x.unword(-1), Check.BAD);
        CHECK.due("unword(26)", x.unword(26), Check.BAD);
        CHECK.due("unword(97)", x.unword(97), Check.BAD);
        CHECK.due("unword(1), none", x.unword(1), 0);
        CHECK.due("told(7), none went", x.told(7), 5);
        CHECK.due("unword(0)", x.unword(0), 2);
        CHECK.due("told(5)", x.told(5), 2);
        CHECK.due("unword(0) again", x.unword(0), 0);
        CHECK.due("zz stays", word(x, "zz"), Check.NO);
        CHECK.due("za stays", word(x, "za"), Check.NO);
        CHECK.due("ab is the third now", word(x, "ab"), 2);
        CHECK.due("unword(25)", x.unword(25), 2);
        CHECK.due("told(5)", x.told(5), 1);
        CHECK.due("ab stays", word(x, "ab"), Check.NO);
    }

    private static void wordsPaint() {
        PaintedLines x = Check.page("if iff i if1if If \"if{if}\"");
        CHECK.due("no words", Check.colours(x, 0), "11011101011311001044471174");
        Check.addWord(x, "if");
        CHECK.due("if", Check.colours(x, 0), "22011101022322001044472274");
        Check.addWord(x, "i");
        CHECK.due("if, i", Check.colours(x, 0), "22011102022322001044472274");
        Check.addWord(x, "f");
        CHECK.due("if, i, f", Check.colours(x, 0), "22011102022322002044472274");
        x.unword('i' - 'a');
        CHECK.due("f", Check.colours(x, 0), "11011101011311002044471174");
    }

    private static void wordsPaintAllAnew() {
        PaintedLines x = Check.page("a", "b", "c");
        Check.addWord(x, "x");
        CHECK.due("word: anew", x.anew(), 3);
        x.puts(0, 0, 'y');
        CHECK.due("puts: anew", x.anew(), 1);
        x.word();
        CHECK.due("word refused: anew", x.anew(), 1);
        x.unword(0);
        CHECK.due("unword of none: anew", x.anew(), 3);
        x.puts(0, 0, 'y');
        x.unword('x' - 'a');
        CHECK.due("unword: anew", x.anew(), 3);
        PaintedLines y = new PaintedLines();
        y.unword(0);
        CHECK.due("unword without lines: anew", y.anew(), 0);
    }
}
