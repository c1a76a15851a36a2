/** Promises 4 to 9: inserts, sets, drops, puts, erases, splits (what is painted: PaintTest, AnewTest). */
final class LineTest {
    private static final Check CHECK = new Check("LineTest");

    public static void main(String[] args) {
        inserts();
        insertsRefused();
        sets();
        drops();
        puts();
        putsRefused();
        erases();
        splits();
        splitsRefused();
        fullLines();
        eachLeavesAStateBack();
        CHECK.end();
    }

    private static void inserts() {
        PaintedLines x = new PaintedLines();
        Check.write(x, "b");
        CHECK.due("inserts(0)", x.inserts(0), 1);
        CHECK.due("the text stays", x.told(3), 1);
        Check.write(x, "a");
        CHECK.due("inserts(0) ahead", x.inserts(0), 2);
        Check.write(x, "d");
        CHECK.due("inserts(2) behind", x.inserts(2), 3);
        Check.write(x, "c");
        CHECK.due("inserts(2) between", x.inserts(2), 4);
        Check.write(x, "");
        CHECK.due("inserts(4), empty", x.inserts(4), 5);
        CHECK.due("lines", Check.lines(x), "a|b|c|d|");
        CHECK.due("of(4, 0)", x.of(4, 0), 0);
        Check.write(x, "zz");
        CHECK.due("lines are no part of the text", Check.lines(x), "a|b|c|d|");
    }

    private static void insertsRefused() {
        PaintedLines x = Check.page("a");
        int[] wrong = {-1, 2, Integer.MIN_VALUE, Integer.MAX_VALUE};
        for (int k : wrong) {
            CHECK.due("inserts(" + k + ")", x.inserts(k), Check.BAD);
        }
        for (int n = 2; n <= 10; n++) {
            CHECK.due("inserts, line " + n, x.inserts(n - 1), n);
        }
        CHECK.due("inserts(10) of 10", x.inserts(10), Check.FULL);
        CHECK.due("inserts(0) of 10", x.inserts(0), Check.FULL);
        CHECK.due("inserts(11) of 10", x.inserts(11), Check.BAD);
        CHECK.due("told(4)", x.told(4), 10);
        CHECK.due("told(0)", x.told(0), wrong.length + 1);
        CHECK.due("told(2)", x.told(2), 2);
    }

    private static void sets() {
        PaintedLines x = Check.page("abc", "de");
        Check.write(x, "x");
        CHECK.due("sets(0)", x.sets(0), 3);
        CHECK.due("sets(1)", x.sets(1), 2);
        CHECK.due("sets(1) again", x.sets(1), 1);
        CHECK.due("lines", Check.lines(x), "x|x");
        CHECK.due("the text stays", x.told(3), 1);
        CHECK.due("sets(2)", x.sets(2), Check.BAD);
        CHECK.due("sets(-1)", x.sets(-1), Check.BAD);
        x.clear();
        CHECK.due("sets(0), empty", x.sets(0), 1);
        CHECK.due("lines", Check.lines(x), "|x");
    }

    private static void drops() {
        PaintedLines x = Check.page("a", "b", "c", "d");
        CHECK.due("drops(1)", x.drops(1), 3);
        CHECK.due("lines", Check.lines(x), "a|c|d");
        CHECK.due("drops(3)", x.drops(3), Check.BAD);
        CHECK.due("drops(-1)", x.drops(-1), Check.BAD);
        CHECK.due("drops(2)", x.drops(2), 2);
        CHECK.due("drops(0)", x.drops(0), 1);
        CHECK.due("lines", Check.lines(x), "c");
        CHECK.due("drops(0)", x.drops(0), 0);
        CHECK.due("drops(0) of none", x.drops(0), Check.BAD);
        Check.insertLine(x, 0, "new");
        CHECK.due("lines", Check.lines(x), "new");
    }

    private static void puts() {
        PaintedLines x = Check.page("bd");
        CHECK.due("puts ahead", x.puts(0, 0, 'a'), 3);
        CHECK.due("puts between", x.puts(0, 2, 'c'), 4);
        CHECK.due("puts behind", x.puts(0, 4, 'e'), 5);
        CHECK.due("lines", Check.lines(x), "abcde");
        CHECK.due("puts(0, 5, 32)", x.puts(0, 5, 32), 6);
        CHECK.due("puts(0, 6, 126)", x.puts(0, 6, 126), 7);
        CHECK.due("lines", Check.lines(x), "abcde ~");
    }

    private static void putsRefused() {
        PaintedLines x = Check.page("ab");
        CHECK.due("puts(1, 0, 97)", x.puts(1, 0, 97), Check.BAD);
        CHECK.due("puts(-1, 0, 97)", x.puts(-1, 0, 97), Check.BAD);
        CHECK.due("puts(0, 3, 97)", x.puts(0, 3, 97), Check.BAD);
        CHECK.due("puts(0, -1, 97)", x.puts(0, -1, 97), Check.BAD);
        CHECK.due("puts(0, 0, 31)", x.puts(0, 0, 31), Check.BAD);
        CHECK.due("puts(0, 0, 127)", x.puts(0, 0, 127), Check.BAD);
        for (int n = 3; n <= 30; n++) {
            CHECK.due("puts, byte " + n, x.puts(0, n - 1, 'c'), n);
        }
        CHECK.due("puts beyond 30", x.puts(0, 30, 'c'), Check.FULL);
        CHECK.due("puts beyond 30, ahead", x.puts(0, 0, 'c'), Check.FULL);
        CHECK.due("puts(0, 31, 97) of 30", x.puts(0, 31, 97), Check.BAD);
        CHECK.due("puts(0, 0, 31) of 30", x.puts(0, 0, 31), Check.BAD);
        CHECK.due("of(0, 0)", x.of(0, 0), 30);
    }

    private static void erases() {
        PaintedLines x = Check.page("abcd", "");
        CHECK.due("erases(0, 1)", x.erases(0, 1), 'b');
        CHECK.due("erases(0, 2)", x.erases(0, 2), 'd');
        CHECK.due("erases(0, 0)", x.erases(0, 0), 'a');
        CHECK.due("lines", Check.lines(x), "c|");
        CHECK.due("erases(0, 1) of 1", x.erases(0, 1), Check.BAD);
        CHECK.due("erases(0, -1)", x.erases(0, -1), Check.BAD);
        CHECK.due("erases(1, 0) of none", x.erases(1, 0), Check.BAD);
        CHECK.due("erases(2, 0)", x.erases(2, 0), Check.BAD);
        CHECK.due("erases(-1, 0)", x.erases(-1, 0), Check.BAD);
        CHECK.due("erases(0, 0)", x.erases(0, 0), 'c');
        CHECK.due("lines", Check.lines(x), "|");
    }

    private static void splits() {
        PaintedLines x = Check.page("abcd", "z");
        CHECK.due("splits(0, 1)", x.splits(0, 1), 3);
        CHECK.due("lines", Check.lines(x), "a|bcd|z");
        CHECK.due("splits(1, 0)", x.splits(1, 0), 4);
        CHECK.due("lines", Check.lines(x), "a||bcd|z");
        CHECK.due("splits(2, 3)", x.splits(2, 3), 5);
        CHECK.due("lines", Check.lines(x), "a||bcd||z");
        CHECK.due("splits(4, 1)", x.splits(4, 1), 6);
        CHECK.due("lines", Check.lines(x), "a||bcd||z|");
        CHECK.due("splits(1, 0) of none", x.splits(1, 0), 7);
        CHECK.due("lines", Check.lines(x), "a|||bcd||z|");
    }

    private static void splitsRefused() {
        PaintedLines x = Check.page("abc");
        CHECK.due("splits(0, 4)", x.splits(0, 4), Check.BAD);
        CHECK.due("splits(0, -1)", x.splits(0, -1), Check.BAD);
        CHECK.due("splits(1, 0)", x.splits(1, 0), Check.BAD);
        CHECK.due("splits(-1, 0)", x.splits(-1, 0), Check.BAD);
        for (int n = 2; n <= 10; n++) {
            CHECK.due("splits, line " + n, x.splits(0, 3), n);
        }
        CHECK.due("splits of 10", x.splits(0, 1), Check.FULL);
        CHECK.due("splits(0, 4) of 10", x.splits(0, 4), Check.BAD);
        CHECK.due("lines", Check.lines(x), "abc|||||||||");
    }

    private static void fullLines() {
        String full = "abcdefghijklmnopqrstuvwxyz0123";
        PaintedLines x = Check.page(full);
        CHECK.due("splits(0, 0) of 30", x.splits(0, 0), 2);
        CHECK.due("lines", Check.lines(x), "|" + full);
        CHECK.due("splits(1, 30) of 30", x.splits(1, 30), 3);
        CHECK.due("lines", Check.lines(x), "|" + full + "|");
        CHECK.due("erases(1, 29)", x.erases(1, 29), '3');
        CHECK.due("puts(1, 0, 35)", x.puts(1, 0, '#'), 30);
        CHECK.due("erases(1, 1)", x.erases(1, 1), 'a');
        CHECK.due("lines", Check.lines(x), "|#bcdefghijklmnopqrstuvwxyz012|");
    }

    private static void eachLeavesAStateBack() {
        PaintedLines x = Check.page("abc");
        CHECK.due("inserts: told(7)", x.told(7), 1);
        x.sets(0);
        CHECK.due("sets of the same: told(7)", x.told(7), 2);
        x.puts(0, 0, 'z');
        CHECK.due("puts: told(7)", x.told(7), 3);
        x.erases(0, 0);
        CHECK.due("erases: told(7)", x.told(7), 4);
        x.splits(0, 1);
        CHECK.due("splits: told(7)", x.told(7), 5);
        x = Check.page("abc");
        x.drops(0);
        CHECK.due("drops: told(7)", x.told(7), 2);
    }
}
