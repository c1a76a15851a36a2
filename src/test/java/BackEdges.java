import java.util.function.Supplier;
import java.util.function.ToIntFunction;

/** "What it is" and the last part of "Terms": how long an object is used, THE TEXT, STATES BACK, what is refused. */
final class BackEdges {
    private final Edges edges;

    BackEdges(Edges edges) {
        this.edges = edges;
    }

    void all() {
        edges.use("An object is used for at most 512 calls after it has been made; what later calls answer is"
                + " free.", this::calls512);
        edges.term("THE TEXT: 30 bytes at most.", this::text);
        edges.term("STATES BACK: each call told S, if it is not refused, leaves one,", this::eachLeavesOne);
        edges.term("also if nothing changes by it,", this::nothingChanges);
        edges.term("to go back to (LINES, WORDS, RULES;", this::whatGoesBack);
        edges.term("ANEW is 0 then),", this::anewIsZero);
        edges.term("5 at most, older ones lost.", this::fiveAtMost);
        edges.term("Refused (a question, too),", this::questionsToo);
        edges.term("changing nothing but how often,", this::nothingButHowOften);
        edges.term("the first of: BAD -2 a number is not as told; NO -3 as told; FULL -4 as told.", this::firstOf);
    }

    private void calls512() {
        PaintedLines x = new PaintedLines();
        int calls = 0;
        for (int n = 0; n < 170; n++) {
            calls += 3;
            edges.due("call " + (calls - 2), x.inserts(0), 1);
            edges.due("call " + (calls - 1), x.drops(0), 0);
            edges.due("call " + calls, x.type(31), Check.BAD);
        }
        edges.due("the 511th call", x.told(0), 170);
        edges.due("the 512th call", x.told(7), 5);
        x.digest();
    }

    private void text() {
        PaintedLines x = new PaintedLines();
        for (int n = 1; n <= 30; n++) {
            edges.due("byte " + n, x.type('a' + n % 26), n);
        }
        edges.due("a thirty-first", x.type('z'), Check.FULL);
        x.inserts(0);
        edges.due("all 30 of them", Check.line(x, 0), "bcdefghijklmnopqrstuvwxyzabcde");
    }

    /** Four states back, no line painted by the last change, and all kinds of things that can change. */
    private static PaintedLines some() {
        PaintedLines x = Check.page("if \"a", "b{if}\"", "[c");
        Check.addWord(x, "if");
        x.rule(2, -1, 44);
        x.rule(4, 1, 45);
        x.back();
        Check.write(x, "b");
        return x;
    }

    private void leavesOne(String name, ToIntFunction<PaintedLines> call) {
        edges.leavesAStateBack(name, some(), call);
    }

    private void leavesNone(String name, ToIntFunction<PaintedLines> call) {
        PaintedLines x = some();
        call.applyAsInt(x);
        edges.due(name + " leaves none", x.told(7), 4);
    }

    private void eachLeavesOne() {
        leavesOne("inserts", x -> x.inserts(1));
        leavesOne("sets", x -> x.sets(0));
        leavesOne("drops", x -> x.drops(0));
        leavesOne("puts", x -> x.puts(0, 0, '['));
        leavesOne("erases", x -> x.erases(0, 3));
        leavesOne("splits", x -> x.splits(1, 2));
        leavesOne("word", x -> x.word());
        leavesOne("unword", x -> x.unword('i' - 'a'));
        leavesOne("rule", x -> x.rule(2, 0, 55));
        leavesNone("type", x -> x.type('a'));
        leavesNone("clear", x -> x.clear());
        leavesNone("at", x -> x.at(0, 0, 0));
        leavesNone("of", x -> x.of(0, 0));
        leavesNone("span", x -> x.span(0, 0, 0));
        leavesNone("anew", x -> x.anew());
        leavesNone("painted", x -> x.painted(0));
        leavesNone("told", x -> x.told(0));
        leavesNone("digest", x -> x.digest() == 0 ? 0 : 1);
        leavesNone("inserts, refused", x -> x.inserts(4));
        leavesNone("sets, refused", x -> x.sets(3));
        leavesNone("drops, refused", x -> x.drops(3));
        leavesNone("puts, refused", x -> x.puts(0, 6, 'a'));
        leavesNone("erases, refused", x -> x.erases(0, 5));
        leavesNone("splits, refused", x -> x.splits(0, 6));
        leavesNone("word, refused", x -> x.clear() + x.word());
        leavesNone("unword, refused", x -> x.unword(26));
        leavesNone("rule, refused", x -> x.rule(8, 0, 0));
    }

    private void nothingChanges() {
        leavesOne("unword of none", x -> x.unword(25));
        leavesOne("a rule once more", x -> x.rule(2, -1, 44));
        PaintedLines x = Check.page("a");
        x.sets(0);
        edges.due("sets of the same", x.told(7), 2);
        x.sets(0);
        edges.due("sets of the same again", x.told(7), 3);
        edges.due("back", x.back(), 2);
        edges.due("back", x.back(), 1);
        edges.due("the LINE is there yet", Check.lines(x), "a");
        edges.due("back", x.back(), 0);
        edges.due("no LINE", x.told(4), 0);
    }

    private void whatGoesBack() {
        PaintedLines x = Check.page("ab cd", "\"");
        Check.addWord(x, "cd");
        x.rule(2, 0, 5);
        x.drops(1);
        x.erases(0, 0);
        x.unword(2);
        x.rule(-1, -1, 9);
        Check.write(x, "xyz");
        x.type(31);
        x.back();
        edges.due("RULES", Check.shades(x, 0), "0 0 0 0");
        x.back();
        edges.due("WORDS", Check.colours(x, 0), "1022");
        edges.due("their SHADES", Check.shades(x, 0), "0 0 5 5");
        x.back();
        x.back();
        edges.due("LINES", Check.lines(x), "ab cd|\"");
        edges.due("what stands open", Check.end(x, 1), "2 1 34 -1");
        edges.due("THE TEXT goes not back", x.told(3), 3);
        edges.due("how often refused goes not back", x.told(0), 1);
        whole();
        rulesGoBackWhole();
    }

    private void whole() {
        PaintedLines x = Check.page("0", "1", "2", "3", "4", "5", "6", "7", "8", "\"" + "a".repeat(29));
        x.unword(0);
        x.drops(0);
        x.drops(8);
        x.back();
        x.back();
        x.back();
        edges.due("ten LINES", Check.lines(x), "0|1|2|3|4|5|6|7|8|\"" + "a".repeat(29));
        x.sets(9);
        edges.due("the last one is the same", x.anew(), 0);
    }

    private void rulesGoBackWhole() {
        PaintedLines x = Check.page("a");
        x.rule(1, 0, 5);
        x.back();
        x.rule(-1, -1, 7);
        edges.due("a RULE that was gone back behind goes ahead of none", x.at(0, 0, 2), 7);
        x.rule(1, 0, 6);
        x.rule(1, 0, 8);
        x.back();
        x.rule(1, -1, 9);
        edges.due("one that came back goes ahead", x.at(0, 0, 2), 6);
    }

    private void anewIsZero() {
        PaintedLines x = Check.page("a", "b", "c");
        x.unword(0);
        edges.due("ahead", x.anew(), 3);
        x.back();
        edges.due("behind", x.anew(), 0);
        x.puts(0, 0, 'z');
        x.rule(0, 0, 0);
        x.back();
        edges.due("of a RULE", x.anew(), 0);
        x.drops(0);
        x.back();
        edges.due("LINES that came back", x.anew(), 0);
        x.puts(0, 0, '"');
        edges.due("the next CHANGE", x.anew(), 3);
        x.back();
        x.back();
        x.back();
        x.back();
        x.back();
        x.inserts(0);
        x.back();
        edges.due("none left", x.back(), Check.NO);
        edges.due("behind a refused one", x.anew(), 0);
    }

    private void fiveAtMost() {
        PaintedLines x = Check.page("a");
        for (int n = 2; n <= 13; n++) {
            x.puts(0, n - 1, 'a');
            edges.due("behind " + n + " calls", x.told(7), Math.min(n, 5));
        }
        for (int n = 4; n >= 0; n--) {
            edges.due("back", x.back(), n);
            edges.due("bytes", x.of(0, 0), 8 + n);
        }
        edges.due("older ones are lost", x.back(), Check.NO);
        edges.due("bytes", x.of(0, 0), 8);
        for (int n = 1; n <= 3; n++) {
            x.puts(0, 0, 'b');
        }
        x.back();
        for (int n = 1; n <= 4; n++) {
            x.puts(0, 0, 'c');
        }
        edges.due("two and four, one of them lost", x.told(7), 5);
        for (int n = 4; n >= 0; n--) {
            x.back();
        }
        edges.due("the newest five went", Check.line(x, 0), "b" + "a".repeat(8));
        edges.due("no more", x.back(), Check.NO);
    }

    private void questionsToo() {
        PaintedLines x = Check.page("a");
        int[] got = {x.at(1, 0, 0), x.of(1, 0), x.span(1, 0, 0), x.painted(8), x.told(8)};
        for (int n = 0; n < got.length; n++) {
            edges.due("question " + n, got[n], Check.BAD);
        }
        edges.due("how often", x.told(0), got.length);
        edges.due("NONE is no refusal", x.span(0, 1, 0) + x.of(0, 4) + x.of(0, 5), 3 * Check.NONE);
        edges.due("how often", x.told(0), got.length);
    }

    /** A refused call adds one to its own count, and all that the object holds is as in its twin. */
    private void refuses(String name, Supplier<PaintedLines> make, int want, ToIntFunction<PaintedLines> call) {
        PaintedLines x = make.get();
        PaintedLines twin = make.get();
        edges.due(name, call.applyAsInt(x), want);
        for (int what = 0; what <= 2; what++) {
            edges.due(name + ": told(" + what + ")", x.told(what), twin.told(what) + (want == -2 - what ? 1 : 0));
        }
        edges.due(name + ": all else", Check.held(x), Check.held(twin));
    }

    /** All is full: the text, the lines, line 0's bytes, the words, the rules and the states back. */
    private static PaintedLines full() {
        PaintedLines x = new PaintedLines();
        for (String word : new String[] {"a", "bb", "ccc", "ddddd"}) {
            Check.addWord(x, word);
        }
        for (int n = 0; n < 12; n++) {
            x.rule(n % 9 - 1, n % 4 - 1, 10 + n);
        }
        String[] lines = {"a \"{bb}\" [ccc] 1 } # ddddd  30", "<Q", "", "Q", "\"", "{", "[", "'", "x", "]}\""};
        for (int k = 0; k < lines.length; k++) {
            Check.insertLine(x, k, lines[k]);
        }
        Check.write(x, "123456789 123456789 123456789 ");
        return x;
    }

    private static PaintedLines fullWith(String text) {
        PaintedLines x = full();
        Check.write(x, text);
        return x;
    }

    private void nothingButHowOften() {
        refuses("type", BackEdges::some, Check.BAD, x -> x.type(31));
        refuses("type", BackEdges::full, Check.FULL, x -> x.type(32));
        refuses("inserts", BackEdges::some, Check.BAD, x -> x.inserts(4));
        refuses("inserts", BackEdges::full, Check.FULL, x -> x.inserts(0));
        refuses("sets", BackEdges::some, Check.BAD, x -> x.sets(3));
        refuses("drops", BackEdges::some, Check.BAD, x -> x.drops(3));
        refuses("puts", BackEdges::some, Check.BAD, x -> x.puts(0, 0, 127));
        refuses("puts", BackEdges::full, Check.FULL, x -> x.puts(0, 0, 'z'));
        refuses("erases", BackEdges::some, Check.BAD, x -> x.erases(0, 5));
        refuses("splits", BackEdges::some, Check.BAD, x -> x.splits(0, 6));
        refuses("splits", BackEdges::full, Check.FULL, x -> x.splits(0, 3));
        refuses("word", BackEdges::full, Check.NO, x -> x.word());
        refuses("word", () -> fullWith("e"), Check.FULL, x -> x.word());
        refuses("unword", BackEdges::some, Check.BAD, x -> x.unword(26));
        refuses("rule", BackEdges::some, Check.BAD, x -> x.rule(0, 0, 100));
        refuses("rule", BackEdges::full, Check.FULL, x -> x.rule(1, 0, 99));
        refuses("at", BackEdges::some, Check.BAD, x -> x.at(0, 0, 3));
        refuses("of", BackEdges::some, Check.BAD, x -> x.of(0, 6));
        refuses("span", BackEdges::some, Check.BAD, x -> x.span(0, 0, 3));
        refuses("painted", BackEdges::some, Check.BAD, x -> x.painted(8));
        refuses("back", PaintedLines::new, Check.NO, x -> x.back());
        refuses("told", BackEdges::some, Check.BAD, x -> x.told(8));
    }

    private void firstOf() {
        edges.due("BAD", PaintedLines.BAD, -2);
        edges.due("NO", PaintedLines.NO, -3);
        edges.due("FULL", PaintedLines.FULL, -4);
        refuses("type, BAD ahead of FULL", BackEdges::full, Check.BAD, x -> x.type(127));
        refuses("inserts, BAD ahead of FULL", BackEdges::full, Check.BAD, x -> x.inserts(11));
        refuses("inserts, BAD ahead of FULL", BackEdges::full, Check.BAD, x -> x.inserts(-1));
        refuses("puts, BAD ahead of FULL: k", BackEdges::full, Check.BAD, x -> x.puts(10, 0, 'a'));
        refuses("puts, BAD ahead of FULL: i", BackEdges::full, Check.BAD, x -> x.puts(0, 31, 'a'));
        refuses("puts, BAD ahead of FULL: c", BackEdges::full, Check.BAD, x -> x.puts(0, 0, 31));
        refuses("splits, BAD ahead of FULL: k", BackEdges::full, Check.BAD, x -> x.splits(10, 0));
        refuses("splits, BAD ahead of FULL: i", BackEdges::full, Check.BAD, x -> x.splits(0, 31));
        refuses("rule, BAD ahead of FULL: colour", BackEdges::full, Check.BAD, x -> x.rule(8, 0, 0));
        refuses("rule, BAD ahead of FULL: mode", BackEdges::full, Check.BAD, x -> x.rule(0, 3, 0));
        refuses("rule, BAD ahead of FULL: shade", BackEdges::full, Check.BAD, x -> x.rule(0, 0, 100));
        refuses("word, NO ahead of FULL: no letters", () -> fullWith(""), Check.NO, x -> x.word());
        refuses("word, NO ahead of FULL: six letters", () -> fullWith("eeeeee"), Check.NO, x -> x.word());
        refuses("word, NO ahead of FULL: it is one", () -> fullWith("ddddd"), Check.NO, x -> x.word());
        refuses("more than one number is not as told", BackEdges::some, Check.BAD, x -> x.puts(-1, -1, -1));
    }
}
