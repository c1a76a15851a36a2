/** Promise 12: rule, and the shades that at(.., 2) answers. */
final class RuleTest {
    private static final Check CHECK = new Check("RuleTest");

    public static void main(String[] args) {
        numbers();
        refused();
        particularOnesAhead();
        particularOnesAheadWhateverTheOrder();
        lastToldOfLikeOnes();
        modeAheadOfTheByte();
        lineWithAMark();
        rulesAreNoChange();
        CHECK.end();
    }

    private static void numbers() {
        PaintedLines x = new PaintedLines();
        for (int n = 0; n < 12; n++) {
            CHECK.due("rule " + n, x.rule(n % 9 - 1, n % 4 - 1, n * 9), n);
        }
        CHECK.due("a 13th rule", x.rule(0, 0, 0), Check.FULL);
        CHECK.due("a 13th rule, not as told", x.rule(0, 0, 100), Check.BAD);
        CHECK.due("told(6)", x.told(6), 12);
        CHECK.due("told(7)", x.told(7), 5);
    }

    private static void refused() {
        PaintedLines x = new PaintedLines();
        CHECK.due("rule(-2, 0, 0)", x.rule(-2, 0, 0), Check.BAD);
        CHECK.due("rule(8, 0, 0)", x.rule(8, 0, 0), Check.BAD);
        CHECK.due("rule(0, -2, 0)", x.rule(0, -2, 0), Check.BAD);
        CHECK.due("rule(0, 3, 0)", x.rule(0, 3, 0), Check.BAD);
        CHECK.due("rule(0, 0, -1)", x.rule(0, 0, -1), Check.BAD);
        CHECK.due("rule(0, 0, 100)", x.rule(0, 0, 100), Check.BAD);
        CHECK.due("told(6)", x.told(6), 0);
        CHECK.due("told(7)", x.told(7), 0);
        CHECK.due("rule(7, 2, 99)", x.rule(7, 2, 99), 0);
        CHECK.due("rule(-1, -1, 0)", x.rule(-1, -1, 0), 1);
    }

    private static void particularOnesAhead() {
        PaintedLines x = Check.page("a\"b\"");
        CHECK.due("no rule", Check.shades(x, 0), "0 0 0 0");
        x.rule(-1, -1, 1);
        CHECK.due("any", Check.shades(x, 0), "1 1 1 1");
        x.rule(-1, 1, 2);
        CHECK.due("a mode", Check.shades(x, 0), "1 1 2 2");
        x.rule(4, -1, 3);
        CHECK.due("a colour", Check.shades(x, 0), "1 3 3 3");
        x.rule(4, 1, 4);
        CHECK.due("a colour and a mode", Check.shades(x, 0), "1 3 4 4");
    }

    private static void particularOnesAheadWhateverTheOrder() {
        PaintedLines x = Check.page("a\"b\"");
        x.rule(4, 1, 4);
        x.rule(4, -1, 3);
        x.rule(-1, 1, 2);
        x.rule(-1, -1, 1);
        CHECK.due("told the other way round", Check.shades(x, 0), "1 3 4 4");
        x.rule(-1, 0, 9);
        CHECK.due("a mode below a colour", Check.shades(x, 0), "9 3 4 4");
        x.rule(1, 2, 8);
        CHECK.due("a rule that doesn't fit", Check.shades(x, 0), "9 3 4 4");
    }

    private static void lastToldOfLikeOnes() {
        PaintedLines x = Check.page("a1");
        x.rule(1, 0, 50);
        x.rule(1, 0, 40);
        x.rule(3, -1, 7);
        x.rule(3, -1, 0);
        CHECK.due("the last told", Check.shades(x, 0), "40 0");
        x.rule(-1, 0, 60);
        x.rule(-1, -1, 70);
        CHECK.due("a shade 0 is one", Check.shades(x, 0), "40 0");
    }

    private static void modeAheadOfTheByte() {
        PaintedLines x = Check.page("\"b{[r]}\\q\" <Z 'x[", "[a[b]]#[", "Z", "[a[b]]#[");
        x.rule(-1, 0, 10);
        x.rule(-1, 1, 11);
        x.rule(-1, 2, 12);
        CHECK.due("line 0", Check.shades(x, 0), "10 11 11 10 12 12 10 11 11 11 10 10 10 10 10 11 11");
        CHECK.due("line 3", Check.shades(x, 3), "10 12 12 12 12 12 10 10");
    }

    private static void lineWithAMark() {
        PaintedLines x = Check.page("a<Q", "q", "Q", "[", "<Q");
        x.rule(-1, 0, 10);
        x.rule(-1, 1, 11);
        x.rule(7, 0, 20);
        x.rule(7, 1, 21);
        x.rule(-1, 2, 12);
        CHECK.due("the line that begins it", Check.shades(x, 0), "10 20 20");
        CHECK.due("a line with it", Check.shades(x, 1), "11");
        CHECK.due("the line that ends it", Check.shades(x, 2), "21");
        CHECK.due("behind it", Check.shades(x, 3), "10");
        CHECK.due("in a remark", Check.shades(x, 4), "12 12");
        PaintedLines y = Check.page("<Q[", "ab", "Q", "a");
        y.rule(-1, 1, 11);
        y.rule(-1, 2, 12);
        CHECK.due("a mark above a remark", Check.shades(y, 1), "11 11");
        CHECK.due("its end above a remark", Check.shades(y, 2), "11");
        CHECK.due("the remark goes on", Check.shades(y, 3), "12");
    }

    private static void rulesAreNoChange() {
        PaintedLines x = Check.page("a", "b");
        x.unword(0);
        x.rule(1, 0, 5);
        CHECK.due("anew stays", x.anew(), 2);
        Check.insertLine(x, 2, "c");
        CHECK.due("a rule is for lines to come, too", Check.shades(x, 2), "5");
        x.rule(1, 0, 6);
        CHECK.due("anew stays", x.anew(), 1);
        CHECK.due("a state back", x.told(7), 5);
        x.back();
        CHECK.due("the rule went", Check.shades(x, 2), "5");
    }
}
