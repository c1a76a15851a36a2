/** Promises 19 and 20: told, digest; and that a refused call changes nothing but how often. */
final class ToldTest {
    private static final Check CHECK = new Check("ToldTest");

    public static void main(String[] args) {
        counts();
        toldRefused();
        digestOfANewObject();
        digestOfLines();
        refusedCallsChangeNothingElse();
        askingChangesNothing();
        CHECK.end();
    }

    private static void counts() {
        PaintedLines x = Check.page("a", "b");
        Check.addWord(x, "ab");
        Check.addWord(x, "cd");
        Check.addWord(x, "ef");
        x.rule(0, 0, 1);
        Check.write(x, "seven77");
        x.type(0);
        x.type(0);
        x.type(0);
        x.word();
        x.word();
        for (int n = 0; n < 24; n++) {
            x.type('x');
        }
        int[] want = {3, 2, 1, 30, 2, 3, 1, 5};
        for (int what = 0; what <= 7; what++) {
            CHECK.due("told(" + what + ")", x.told(what), want[what]);
        }
    }

    private static void toldRefused() {
        PaintedLines x = new PaintedLines();
        CHECK.due("told(8)", x.told(8), Check.BAD);
        CHECK.due("told(-1)", x.told(-1), Check.BAD);
        CHECK.due("told(max)", x.told(Integer.MAX_VALUE), Check.BAD);
        CHECK.due("told(0)", x.told(0), 3);
    }

    private static long digestByCalls(PaintedLines x) {
        long h = 2543;
        for (int what = 0; what <= 7; what++) {
            h = 31 * h + x.told(what);
        }
        h = 31 * h + x.anew();
        for (int k = 0; k < x.told(4); k++) {
            for (int what = 0; what <= 5; what++) {
                h = 31 * h + x.of(k, what);
            }
            for (int i = 0; i < x.of(k, 0); i++) {
                for (int what = 0; what <= 2; what++) {
                    h = 31 * h + x.at(k, i, what);
                }
            }
        }
        return h;
    }

    private static void digestOfANewObject() {
        long h = 2543;
        for (int n = 0; n < 9; n++) {
            h = 31 * h;
        }
        CHECK.due("digest", new PaintedLines().digest(), h);
    }

    private static void digestOfLines() {
        PaintedLines x = Check.page("if \"a{1}", "<Q", "\"[", "", "z");
        x.rule(4, -1, 77);
        x.type(7);
        Check.addWord(x, "if");
        CHECK.due("digest", x.digest(), digestByCalls(x));
        CHECK.due("digest again", x.digest(), digestByCalls(x));
        CHECK.due("told(0)", x.told(0), 1);
    }

    private static PaintedLines fullPage() {
        PaintedLines x = new PaintedLines();
        String[] words = {"a", "b", "c", "d"};
        for (String word : words) {
            Check.addWord(x, word);
        }
        for (int n = 0; n < 12; n++) {
            x.rule(n % 8, -1, n);
        }
        for (int k = 0; k < 10; k++) {
            Check.insertLine(x, k, "123456789 123456789 123456789 ");
        }
        return x;
    }

    private static void refusedCallsChangeNothingElse() {
        PaintedLines x = fullPage();
        int anew = x.anew();
        String lines = Check.lines(x);
        CHECK.due("type", x.type('a'), Check.FULL);
        CHECK.due("inserts", x.inserts(10), Check.FULL);
        CHECK.due("puts", x.puts(9, 30, 'a'), Check.FULL);
        CHECK.due("splits", x.splits(9, 30), Check.FULL);
        CHECK.due("rule", x.rule(7, 2, 99), Check.FULL);
        CHECK.due("word", x.word(), Check.NO);
        Check.write(x, "e");
        CHECK.due("word", x.word(), Check.FULL);
        CHECK.due("sets", x.sets(10), Check.BAD);
        CHECK.due("drops", x.drops(10), Check.BAD);
        CHECK.due("erases", x.erases(9, 30), Check.BAD);
        CHECK.due("unword", x.unword(26), Check.BAD);
        CHECK.due("lines", Check.lines(x), lines);
        CHECK.due("anew", x.anew(), anew);
        int[] want = {4, 1, 6, 1, 10, 4, 12, 5};
        for (int what = 0; what <= 7; what++) {
            CHECK.due("told(" + what + ")", x.told(what), want[what]);
        }
    }

    private static void askingChangesNothing() {
        PaintedLines x = Check.page("a\"", "b");
        long before = x.digest();
        x.at(1, 0, 2);
        x.of(1, 4);
        x.span(1, 0, 1);
        x.span(1, 9, 1);
        x.anew();
        x.painted(4);
        x.told(7);
        CHECK.due("digest", x.digest(), before);
    }
}
