/** Counts the answers of one test that are not as due, and helps to write and read lines. */
final class Check {
    static final int NONE = PaintedLines.NONE;
    static final int BAD = PaintedLines.BAD;
    static final int NO = PaintedLines.NO;
    static final int FULL = PaintedLines.FULL;

    private final String test;
    private int asked = 0;
    private int wrong = 0;

    Check(String test) {
        this.test = test;
    }

    void due(String what, long got, long want) {
        asked++;
        if (got != want) {
            wrong++;
            System.out.println(test + ": " + what + " answered " + got + ", due is " + want);
        }
    }

    void due(String what, String got, String want) {
        asked++;
        if (!got.equals(want)) {
            wrong++;
            System.out.println(test + ": " + what + " answered " + got + ", due is " + want);
        }
    }

    void isTrue(String what, boolean holds) {
        due(what, holds ? "true" : "false", "true");
    }

    int asked() {
        return asked;
    }

    void end() {
        System.out.println(test + ": " + asked + " answers, " + wrong + " of them not as due");
        if (wrong != 0 || asked == 0) {
            System.exit(1);
        }
    }

    static void write(PaintedLines x, String text) {
        x.clear();
        for (int i = 0; i < text.length(); i++) {
            x.type(text.charAt(i));
        }
    }

    static void setLine(PaintedLines x, int k, String text) {
        write(x, text);
        x.sets(k);
    }

    static void insertLine(PaintedLines x, int k, String text) {
        write(x, text);
        x.inserts(k);
    }

    static PaintedLines page(String... lines) {
        PaintedLines x = new PaintedLines();
        for (int k = 0; k < lines.length; k++) {
            insertLine(x, k, lines[k]);
        }
        return x;
    }

    static void addWord(PaintedLines x, String word) {
        write(x, word);
        x.word();
    }

    static String line(PaintedLines x, int k) {
        StringBuilder bytes = new StringBuilder();
        for (int i = 0; i < x.of(k, 0); i++) {
            bytes.append((char) x.at(k, i, 0));
        }
        return bytes.toString();
    }

    /** All lines, with a bar between them (so no line of such a test has one). */
    static String lines(PaintedLines x) {
        StringBuilder all = new StringBuilder();
        for (int k = 0; k < x.told(4); k++) {
            all.append(k == 0 ? "" : "|").append(line(x, k));
        }
        return all.toString();
    }

    /** A figure for each byte's colour. */
    static String colours(PaintedLines x, int k) {
        StringBuilder figures = new StringBuilder();
        for (int i = 0; i < x.of(k, 0); i++) {
            figures.append(x.at(k, i, 1));
        }
        return figures.toString();
    }

    static String shades(PaintedLines x, int k) {
        StringBuilder row = new StringBuilder();
        for (int i = 0; i < x.of(k, 0); i++) {
            row.append(i == 0 ? "" : " ").append(x.at(k, i, 2));
        }
        return row.toString();
    }

    /** Of a line's end: how many are on the pile, the highest mode, its quote, the mark. */
    static String end(PaintedLines x, int k) {
        return x.of(k, 2) + " " + x.of(k, 3) + " " + x.of(k, 4) + " " + x.of(k, 5);
    }

    /** All that questions can see, but how often calls were refused. */
    static String seen(PaintedLines x) {
        StringBuilder all = new StringBuilder("anew " + x.anew());
        for (int what = 3; what <= 7; what++) {
            all.append(' ').append(x.told(what));
        }
        for (int k = 0; k < x.told(4); k++) {
            all.append('\n').append(line(x, k)).append(' ').append(colours(x, k)).append(' ');
            all.append(shades(x, k)).append(" / ").append(x.of(k, 1)).append(' ').append(end(x, k));
        }
        return all.toString();
    }

    /**
     * All that an object holds, but how often calls were refused: what questions see, the text as a
     * line, and all that it can go back to. It uses the object up.
     */
    static String held(PaintedLines x) {
        StringBuilder all = new StringBuilder(seen(x));
        for (int n = 0; n < 5 && x.told(7) > 0; n++) {
            x.back();
            all.append('\n').append(seen(x));
        }
        for (int n = 0; n < 10 && x.told(4) > 0; n++) {
            x.drops(0);
        }
        x.inserts(0);
        return all.append('\n').append(seen(x)).toString();
    }
}
