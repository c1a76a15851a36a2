import java.util.function.ToIntFunction;

/** Promises 1 to 12: a new object, and the calls that change what there is. */
final class CallEdges {
    private static final String FULL_LINE = "abcdefghijklmnopqrstuvwxyz0123";

    private final Edges edges;

    CallEdges(Edges edges) {
        this.edges = edges;
    }

    void all() {
        edges.promise(1, "`PaintedLines()`: As told.", this::newObject);
        texts();
        lines();
        bytes();
        words();
        rules();
    }

    private void texts() {
        edges.promise(2, "`int type(int c)`: A byte (32 .. 126) comes behind THE TEXT: how many it has.", this::type);
        edges.promise(2, "BAD;", () -> edges.bad("type", 32, 126, c -> new PaintedLines().type(c)));
        edges.promise(2, "FULL: 30.", this::typeFull);
        edges.promise(3, "`int clear()`: THE TEXT is empty: how many it had.", this::clear);
    }

    private void lines() {
        edges.promise(4, "`int inserts(int k)`: A new LINE, THE TEXT (which stays), comes ahead of LINE k (k how many"
                + " there are: behind all): how many there are.", this::inserts);
        edges.promise(4, "S.", () -> leavesAStateBack(x -> x.inserts(1), "a|zz|b{|c"));
        edges.promise(4, "BAD;", () -> edges.bad("inserts", 0, 3, k -> three().inserts(k)));
        edges.promise(4, "FULL: 10.", this::insertsFull);
        edges.promise(5, "`int sets(int k)`: LINE k becomes THE TEXT (which stays): how many bytes it had.",
                this::sets);
        edges.promise(5, "S.", () -> leavesAStateBack(x -> x.sets(1), "a|zz|c"));
        edges.promise(5, "BAD.", () -> edges.bad("sets", 0, 2, k -> three().sets(k)));
        edges.promise(5, "(Was it the same, no LINE was changed: ANEW 0.)", this::setsTheSame);
        edges.promise(6, "`int drops(int k)`: LINE k goes: how many are left.", this::drops);
        edges.promise(6, "S.", () -> leavesAStateBack(x -> x.drops(1), "a|c"));
        edges.promise(6, "BAD.", () -> edges.bad("drops", 0, 2, k -> three().drops(k)));
        edges.promise(9, "`int splits(int k, int i)`: LINE k is parted ahead of byte i (0 .. how many it has): how many"
                + " LINES there are.", this::splits);
        edges.promise(9, "S.", () -> leavesAStateBack(x -> x.splits(1, 1), "a|b|{|c"));
        edges.promise(9, "BAD;", this::splitsBad);
        edges.promise(9, "FULL: 10.", this::splitsFull);
        edges.promise(9, "(The CHANGE begins with LINE k.)", this::splitsChange);
    }

    private void bytes() {
        edges.promise(7, "`int puts(int k, int i, int c)`: A byte (32 .. 126) comes into LINE k ahead of byte i (i how"
                + " many it has: behind all): how many it has.", this::puts);
        edges.promise(7, "S.", () -> leavesAStateBack(x -> x.puts(1, 0, '"'), "a|\"b{|c"));
        edges.promise(7, "BAD;", this::putsBad);
        edges.promise(7, "FULL: 30.", this::putsFull);
        edges.promise(8, "`int erases(int k, int i)`: Byte i of LINE k goes: which it was.", this::erases);
        edges.promise(8, "S.", () -> leavesAStateBack(x -> x.erases(1, 0), "a|{|c"));
        edges.promise(8, "BAD.", this::erasesBad);
    }

    private void words() {
        edges.promise(10, "`int word()`: THE TEXT (which stays) is a WORD: its number.", this::word);
        edges.promise(10, "S.", () -> leavesAStateBack(x -> x.word(), "a|b{|c"));
        edges.promise(10, "NO: not 1 to 5 letters a .. z,", this::noWord);
        edges.promise(10, "it is one;", this::wordAlready);
        edges.promise(10, "FULL: 4.", this::wordFull);
        edges.promise(11, "`int unword(int letter)`: All WORDS that begin with a letter (0 a .. 25 z) go: how many.",
                this::unword);
        edges.promise(11, "S.", () -> leavesAStateBack(x -> x.unword(0), "a|b{|c"));
        edges.promise(11, "BAD.", () -> edges.bad("unword", 0, 25, letter -> three().unword(letter)));
    }

    private void rules() {
        edges.promise(12, "`int rule(int colour, int mode, int shade)`: A RULE: its number.", this::rule);
        edges.promise(12, "S.", () -> leavesAStateBack(x -> x.rule(1, -1, 7), "a|b{|c"));
        edges.promise(12, "BAD (COLOUR -1 .. 7, MODE -1 .. 2);", this::ruleBad);
        edges.promise(12, "FULL: 12.", this::ruleFull);
    }

    private static PaintedLines three() {
        return Check.page("a", "b{", "c");
    }

    /** The call leaves these lines and one state back more. */
    private void leavesAStateBack(ToIntFunction<PaintedLines> call, String lines) {
        PaintedLines x = three();
        Check.addWord(x, "a");
        x.rule(1, 0, 6);
        x.back();
        Check.write(x, "zz");
        edges.leavesAStateBack("on three LINES", x, y -> {
            int answer = call.applyAsInt(y);
            edges.due("LINES", Check.lines(y), lines);
            return answer;
        });
    }

    private void newObject() {
        PaintedLines x = new PaintedLines();
        for (int what = 0; what <= 7; what++) {
            edges.due("told(" + what + ")", x.told(what), 0);
        }
        for (int colour = 0; colour <= 7; colour++) {
            edges.due("painted(" + colour + ")", x.painted(colour), 0);
        }
        edges.due("anew", x.anew(), 0);
        edges.due("no LINE", x.of(0, 0), Check.BAD);
        edges.due("no STATE BACK", x.back(), Check.NO);
        PaintedLines y = Check.page("ab");
        Check.addWord(y, "ab");
        y.rule(-1, -1, 9);
        PaintedLines z = new PaintedLines();
        edges.due("another object's THE TEXT", z.clear(), 0);
        Check.insertLine(z, 0, "ab");
        edges.due("another object's WORDS and RULES", Check.colours(z, 0) + Check.shades(z, 0), "110 0");
        edges.due("the first one's LINES", Check.colours(y, 0) + Check.shades(y, 0), "229 9");
    }

    private void type() {
        PaintedLines x = new PaintedLines();
        edges.due("type(32)", x.type(32), 1);
        edges.due("type(126)", x.type(126), 2);
        edges.due("type(65)", x.type(65), 3);
        x.inserts(0);
        edges.due("behind the others", Check.line(x, 0), " ~A");
    }

    private void typeFull() {
        PaintedLines x = new PaintedLines();
        for (int n = 1; n <= 30; n++) {
            edges.due("byte " + n, x.type('a'), n);
        }
        edges.due("byte 31", x.type('a'), Check.FULL);
        edges.due("how many", x.told(3), 30);
        x.clear();
        edges.due("room again", x.type('a'), 1);
    }

    private void clear() {
        PaintedLines x = new PaintedLines();
        edges.due("of nothing", x.clear(), 0);
        Check.write(x, FULL_LINE);
        edges.due("of 30", x.clear(), 30);
        edges.due("once more", x.clear(), 0);
        x.inserts(0);
        edges.due("an empty LINE", x.of(0, 0), 0);
    }

    private void inserts() {
        PaintedLines x = new PaintedLines();
        Check.write(x, FULL_LINE);
        edges.due("the first, of 30 bytes", x.inserts(0), 1);
        edges.due("THE TEXT stays", x.told(3), 30);
        Check.write(x, "a");
        edges.due("ahead of all", x.inserts(0), 2);
        edges.due("behind all", x.inserts(2), 3);
        Check.write(x, "");
        edges.due("an empty one ahead of the last", x.inserts(2), 4);
        Check.write(x, "b");
        edges.due("LINES", Check.lines(x), "a|" + FULL_LINE + "||a");
    }

    private static PaintedLines tenLines() {
        PaintedLines x = Check.page("0", "1", "2", "3", "4", "5", "6", "7", "8");
        Check.write(x, "9");
        x.inserts(9);
        return x;
    }

    private void insertsFull() {
        PaintedLines x = tenLines();
        edges.due("ten", x.told(4), 10);
        edges.due("behind all", x.inserts(10), Check.FULL);
        edges.due("ahead of all", x.inserts(0), Check.FULL);
        x.drops(4);
        edges.due("room again", x.inserts(0), 10);
        edges.due("LINES", Check.lines(x), "9|0|1|2|3|5|6|7|8|9");
    }

    private void sets() {
        PaintedLines x = Check.page("", FULL_LINE, "c");
        edges.due("an empty one", x.sets(0), 0);
        edges.due("of 30", x.sets(1), 30);
        edges.due("THE TEXT stays", x.told(3), 1);
        x.clear();
        edges.due("the last one becomes empty", x.sets(2), 1);
        edges.due("LINES", Check.lines(x), "c|c|");
        Check.write(x, FULL_LINE);
        edges.due("becomes 30", x.sets(2), 0);
        Check.write(x, "d");
        edges.due("LINES are no part of THE TEXT", Check.lines(x), "c|c|" + FULL_LINE);
    }

    private void setsTheSame() {
        PaintedLines x = Check.page("\"", "a", "");
        x.sets(2);
        edges.due("the same, empty", x.anew(), 0);
        Check.setLine(x, 1, "b");
        edges.due("another of like length", x.anew(), 1);
        x.sets(1);
        edges.due("the same", x.anew(), 0);
        Check.setLine(x, 1, "bb");
        edges.due("a longer one", x.anew(), 1);
        Check.setLine(x, 1, "b");
        edges.due("a shorter one", x.anew(), 1);
        Check.setLine(x, 0, FULL_LINE);
        edges.due("30 bytes", x.anew(), 3);
        x.sets(0);
        edges.due("the same 30", x.anew(), 0);
        Check.setLine(x, 0, FULL_LINE.replace('3', '4'));
        edges.due("the last of 30 is another", x.anew(), 1);
    }

    private void drops() {
        PaintedLines x = tenLines();
        edges.due("the last of ten", x.drops(9), 9);
        edges.due("the first", x.drops(0), 8);
        edges.due("one between", x.drops(3), 7);
        edges.due("LINES", Check.lines(x), "1|2|3|5|6|7|8");
        for (int left = 6; left >= 0; left--) {
            edges.due("the first", x.drops(0), left);
        }
        edges.due("of none", x.drops(0), Check.BAD);
        edges.due("a LINE comes again", x.inserts(0), 1);
    }

    private void splits() {
        PaintedLines x = Check.page(FULL_LINE, "", "x");
        edges.due("behind all bytes", x.splits(0, 30), 4);
        edges.due("ahead of all bytes", x.splits(0, 0), 5);
        edges.due("LINES", Check.lines(x), "|" + FULL_LINE + "|||x");
        edges.due("an empty one", x.splits(3, 0), 6);
        edges.due("between bytes", x.splits(1, 29), 7);
        edges.due("the last LINE", x.splits(6, 1), 8);
        edges.due("LINES", Check.lines(x), "|" + FULL_LINE.substring(0, 29) + "|3||||x|");
        PaintedLines y = Check.page("if");
        Check.addWord(y, "if");
        y.splits(0, 1);
        edges.due("paint of both", Check.colours(y, 0) + Check.colours(y, 1), "11");
    }

    private void splitsBad() {
        edges.bad("splits of LINE", 0, 2, k -> three().splits(k, 0));
        edges.bad("splits ahead of byte", 0, 2, i -> three().splits(1, i));
        edges.due("of none", new PaintedLines().splits(0, 0), Check.BAD);
    }

    private void splitsFull() {
        PaintedLines x = tenLines();
        edges.due("of ten", x.splits(0, 0), Check.FULL);
        edges.due("the last of ten", x.splits(9, 1), Check.FULL);
        x.drops(9);
        edges.due("of nine", x.splits(8, 1), 10);
        edges.due("LINES", Check.lines(x), "0|1|2|3|4|5|6|7|8|");
    }

    private void splitsChange() {
        PaintedLines x = Check.page("a", "bc", "d", "e");
        x.splits(1, 2);
        edges.due("LINE k keeps its bytes", x.anew(), 3);
        x.splits(1, 0);
        edges.due("LINE k loses its bytes", x.anew(), 3);
        x.splits(5, 1);
        edges.due("the last LINE", x.anew(), 2);
        PaintedLines y = Check.page("a", "'\"b", "d", "e");
        y.splits(1, 1);
        edges.due("to the end", y.anew(), 4);
        edges.due("LINE 4", Check.colours(y, 4), "4");
    }

    private void puts() {
        PaintedLines x = Check.page("", "bc");
        edges.due("into an empty one", x.puts(0, 0, 32), 1);
        edges.due("behind all", x.puts(0, 1, 126), 2);
        edges.due("ahead of all", x.puts(1, 0, 'a'), 3);
        edges.due("between", x.puts(1, 2, 'x'), 4);
        edges.due("behind all", x.puts(1, 4, 'd'), 5);
        edges.due("LINES", Check.lines(x), " ~|abxcd");
        PaintedLines y = Check.page(FULL_LINE.substring(1));
        edges.due("a thirtieth ahead of all", y.puts(0, 0, 'a'), 30);
        edges.due("LINES", Check.lines(y), FULL_LINE);
    }

    private void putsBad() {
        edges.bad("puts into LINE", 0, 2, k -> three().puts(k, 0, 'x'));
        edges.bad("puts ahead of byte", 0, 2, i -> three().puts(1, i, 'x'));
        edges.bad("puts of byte", 32, 126, c -> three().puts(1, 1, c));
        edges.due("of none", new PaintedLines().puts(0, 0, 'x'), Check.BAD);
    }

    private void putsFull() {
        PaintedLines x = Check.page("", FULL_LINE);
        edges.due("ahead of all", x.puts(1, 0, 'x'), Check.FULL);
        edges.due("behind all", x.puts(1, 30, 'x'), Check.FULL);
        edges.due("another LINE", x.puts(0, 0, 'x'), 1);
        x.erases(1, 0);
        edges.due("room again", x.puts(1, 29, 'x'), 30);
        edges.due("LINES", Check.lines(x), "x|" + FULL_LINE.substring(1) + "x");
    }

    private void erases() {
        PaintedLines x = Check.page(FULL_LINE, "~ ");
        edges.due("the last of 30", x.erases(0, 29), '3');
        edges.due("the first", x.erases(0, 0), 'a');
        edges.due("one between", x.erases(0, 1), 'c');
        edges.due("LINE 0", Check.line(x, 0), "bdefghijklmnopqrstuvwxyz012");
        edges.due("a byte 126", x.erases(1, 0), 126);
        edges.due("the only one, a byte 32", x.erases(1, 0), 32);
        edges.due("the LINE stays, empty", x.of(1, 0), 0);
        edges.due("no byte is left", x.erases(1, 0), Check.BAD);
    }

    private void erasesBad() {
        edges.bad("erases of LINE", 0, 2, k -> three().erases(k, 0));
        edges.bad("erases of byte", 0, 1, i -> three().erases(1, i));
        edges.due("of none", new PaintedLines().erases(0, 0), Check.BAD);
        edges.due("of an empty LINE", Check.page("").erases(0, 0), Check.BAD);
    }

    private int wordOf(PaintedLines x, String text) {
        Check.write(x, text);
        return x.word();
    }

    private void word() {
        PaintedLines x = Check.page("z zzzzz");
        edges.due("of 1 letter", wordOf(x, "z"), 0);
        edges.due("THE TEXT stays", x.told(3), 1);
        edges.due("of 5 letters", wordOf(x, "zzzzz"), 1);
        edges.due("paint", Check.colours(x, 0), "2022222");
        edges.due("a third", wordOf(x, "a"), 2);
        x.unword(25);
        edges.due("as they stand then", wordOf(x, "z"), 1);
        x.type('y');
        edges.due("WORDS are no part of THE TEXT", Check.colours(x, 0), "2011111");
    }

    private void noWord() {
        PaintedLines x = new PaintedLines();
        String[] none = {"", "abcdef", FULL_LINE, "A", "aZ", "`", "{", "a{", "`a", "a b", " a", "a ", "1", "abcd1"};
        for (String text : none) {
            edges.due("'" + text + "'", wordOf(x, text), Check.NO);
        }
        edges.due("how often", x.told(1), none.length);
        edges.due("how many", x.told(5), 0);
    }

    private void wordAlready() {
        PaintedLines x = new PaintedLines();
        edges.due("a WORD", wordOf(x, "ab"), 0);
        edges.due("it is one", x.word(), Check.NO);
        edges.due("its beginning is none", wordOf(x, "a"), 1);
        edges.due("a longer one is none", wordOf(x, "abc"), 2);
        edges.due("the first again", wordOf(x, "ab"), Check.NO);
        edges.due("the last again", wordOf(x, "abc"), Check.NO);
        x.unword(0);
        edges.due("it went", wordOf(x, "ab"), 0);
        x.back();
        edges.due("it came back", wordOf(x, "c"), 0);
        x.back();
        x.back();
        edges.due("all came back", wordOf(x, "ab"), Check.NO);
    }

    private void wordFull() {
        PaintedLines x = new PaintedLines();
        for (int number = 0; number <= 3; number++) {
            edges.due("WORD " + number, wordOf(x, "abcde".substring(number)), number);
        }
        edges.due("a fifth", wordOf(x, "f"), Check.FULL);
        edges.due("how many", x.told(5), 4);
        x.unword(0);
        edges.due("room again", wordOf(x, "f"), 3);
    }

    private void unword() {
        PaintedLines x = Check.page("a ab za zb");
        for (String text : new String[] {"a", "za", "ab", "zb"}) {
            Check.addWord(x, text);
        }
        edges.due("a letter within", x.unword(1), 0);
        edges.due("letter a", x.unword(0), 2);
        edges.due("paint", Check.colours(x, 0), "1011022022");
        edges.due("how many are left", x.told(5), 2);
        edges.due("letter z", x.unword(25), 2);
        edges.due("none is left", x.unword(25), 0);
        edges.due("paint", Check.colours(x, 0), "1011011011");
        PaintedLines y = new PaintedLines();
        for (String text : new String[] {"z", "zz", "zzz", "zzzz"}) {
            Check.addWord(y, text);
        }
        edges.due("all four", y.unword(25), 4);
        edges.due("none", y.told(5), 0);
    }

    private void rule() {
        PaintedLines x = Check.page("a");
        edges.due("the least", x.rule(-1, -1, 0), 0);
        edges.due("the greatest", x.rule(7, 2, 99), 1);
        edges.due("a like one", x.rule(7, 2, 99), 2);
        x.back();
        edges.due("its number again", x.rule(1, 0, 50), 2);
        edges.due("SHADE", x.at(0, 0, 2), 50);
    }

    private void ruleBad() {
        edges.bad("rule for COLOUR", -1, 7, colour -> new PaintedLines().rule(colour, 0, 0));
        edges.bad("rule for MODE", -1, 2, mode -> new PaintedLines().rule(0, mode, 0));
        edges.bad("rule of SHADE", 0, 99, shade -> new PaintedLines().rule(0, 0, shade));
    }

    private void ruleFull() {
        PaintedLines x = new PaintedLines();
        for (int number = 0; number <= 11; number++) {
            edges.due("RULE " + number, x.rule(-1, -1, number), number);
        }
        edges.due("a thirteenth", x.rule(-1, -1, 0), Check.FULL);
        edges.due("how many", x.told(6), 12);
        x.back();
        edges.due("room again", x.rule(-1, -1, 0), 11);
    }
}
