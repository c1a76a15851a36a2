/** Promises 1 to 3: a new object, type, clear. */
final class TextTest {
    private static final Check CHECK = new Check("TextTest");

    public static void main(String[] args) {
        newObject();
        typing();
        wrongBytes();
        fullText();
        clearing();
        textIsNoStateBack();
        CHECK.end();
    }

    private static void newObject() {
        PaintedLines x = new PaintedLines();
        for (int what = 0; what <= 7; what++) {
            CHECK.due("new: told(" + what + ")", x.told(what), 0);
        }
        CHECK.due("new: anew", x.anew(), 0);
        for (int colour = 0; colour <= 7; colour++) {
            CHECK.due("new: painted(" + colour + ")", x.painted(colour), 0);
        }
        CHECK.due("new: of(0, 0)", x.of(0, 0), Check.BAD);
        CHECK.due("new: back", new PaintedLines().back(), Check.NO);
        CHECK.due("NONE", PaintedLines.NONE, -1);
        CHECK.due("BAD", PaintedLines.BAD, -2);
        CHECK.due("NO", PaintedLines.NO, -3);
        CHECK.due("FULL", PaintedLines.FULL, -4);
    }

    private static void typing() {
        PaintedLines x = new PaintedLines();
        CHECK.due("type(32)", x.type(32), 1);
        CHECK.due("type(126)", x.type(126), 2);
        CHECK.due("type(65)", x.type(65), 3);
        CHECK.due("told(3)", x.told(3), 3);
        x.inserts(0);
        CHECK.due("the line", Check.line(x, 0), " ~A");
    }

    private static void wrongBytes() {
        PaintedLines x = new PaintedLines();
        int[] wrong = {31, 127, 0, -1, 128, 10, 32 + 256, Integer.MIN_VALUE, Integer.MAX_VALUE};
        for (int c : wrong) {
            CHECK.due("type(" + c + ")", x.type(c), Check.BAD);
        }
        CHECK.due("told(0)", x.told(0), wrong.length);
        CHECK.due("told(3)", x.told(3), 0);
    }

    private static void fullText() {
        PaintedLines x = new PaintedLines();
        for (int n = 1; n <= 30; n++) {
            CHECK.due("type, the " + n + ". time", x.type(97), n);
        }
        CHECK.due("type beyond 30", x.type(97), Check.FULL);
        CHECK.due("type(31) beyond 30", x.type(31), Check.BAD);
        CHECK.due("told(3)", x.told(3), 30);
        CHECK.due("told(2)", x.told(2), 1);
        CHECK.due("told(0)", x.told(0), 1);
    }

    private static void clearing() {
        PaintedLines x = new PaintedLines();
        CHECK.due("clear of nothing", x.clear(), 0);
        Check.write(x, "abc");
        CHECK.due("clear", x.clear(), 3);
        CHECK.due("told(3)", x.told(3), 0);
        CHECK.due("clear again", x.clear(), 0);
        x.type('z');
        x.inserts(0);
        CHECK.due("the line", Check.line(x, 0), "z");
    }

    private static void textIsNoStateBack() {
        PaintedLines x = new PaintedLines();
        Check.write(x, "abc");
        x.clear();
        CHECK.due("told(7)", x.told(7), 0);
        Check.write(x, "ab");
        x.inserts(0);
        x.type('c');
        x.back();
        CHECK.due("the text goes not back", x.told(3), 3);
    }
}
