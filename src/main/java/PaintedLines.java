/**
 * Lines of a small language, painted byte by byte. The promises that the calls keep are numbered in
 * the project's document; README.md tells how the class is used. All rows are made by the
 * constructor and used again: no call makes an object.
 */
public final class PaintedLines {
    public static final int NONE = -1, BAD = -2, NO = -3, FULL = -4;

    private static final int MOST_LINES = 10;
    private static final int MOST_BYTES = 30;
    private static final int MOST_WORDS = 4;
    private static final int MOST_LETTERS = 5;
    private static final int MOST_RULES = 12;
    private static final int MOST_BACK = 5;
    private static final int MOST_OPEN = 6;

    private static final int CODE = 0;
    private static final int STRING = 1;
    private static final int REMARK = 2;
    private static final int MODES = 3;

    private static final int OTHER_COLOUR = 0;
    private static final int NAME_COLOUR = 1;
    private static final int WORD_COLOUR = 2;
    private static final int FIGURE_COLOUR = 3;
    private static final int STRING_COLOUR = 4;
    private static final int REMARK_COLOUR = 5;
    private static final int WRONG_COLOUR = 6;
    private static final int SIGN_COLOUR = 7;
    private static final int COLOURS = 8;

    private static final int ANY = -1;
    private static final int MOST_SHADE = 99;
    private static final int ESCAPE = 92;

    private final Row text;
    private final Page page;
    private final History history;
    private final int[] refused;
    private int anewCount;

    public PaintedLines() {
        text = new Row(MOST_BYTES);
        page = new Page();
        history = new History();
        refused = new int[3];
        anewCount = 0;
    }

    // ---- texts

    public int type(int c) {
        if (!isByte(c)) {
            return refuse(BAD);
        }
        if (text.length >= MOST_BYTES) {
            return refuse(FULL);
        }
        text.put(text.length, c);
        return text.length;
    }

    public int clear() {
        int had = text.length;
        text.length = 0;
        return had;
    }

    // ---- lines

    public int inserts(int k) {
        if (k < 0 || k > page.count) {
            return refuse(BAD);
        }
        if (page.count >= MOST_LINES) {
            return refuse(FULL);
        }
        history.keep(page);
        page.openLine(k);
        page.lines[k].row.copyFrom(text);
        anewCount = page.repaint(k, k);
        return page.count;
    }

    public int sets(int k) {
        if (!page.hasLine(k)) {
            return refuse(BAD);
        }
        history.keep(page);
        Row row = page.lines[k].row;
        int had = row.length;
        if (row.isLike(text)) {
            anewCount = 0;
        } else {
            row.copyFrom(text);
            anewCount = page.repaint(k, k);
        }
        return had;
    }

    public int drops(int k) {
        if (!page.hasLine(k)) {
            return refuse(BAD);
        }
        history.keep(page);
        page.closeLine(k);
        anewCount = page.repaint(k, k);
        return page.count;
    }

    public int puts(int k, int i, int c) {
        if (!page.hasLine(k) || i < 0 || i > page.lines[k].row.length || !isByte(c)) {
            return refuse(BAD);
        }
        Row row = page.lines[k].row;
        if (row.length >= MOST_BYTES) {
            return refuse(FULL);
        }
        history.keep(page);
        row.put(i, c);
        anewCount = page.repaint(k, k);
        return row.length;
    }

    public int erases(int k, int i) {
        if (!page.hasByte(k, i)) {
            return refuse(BAD);
        }
        history.keep(page);
        Row row = page.lines[k].row;
        int gone = row.signAt(i);
        row.erase(i);
        anewCount = page.repaint(k, k);
        return gone;
    }

    public int splits(int k, int i) {
        if (!page.hasLine(k) || i < 0 || i > page.lines[k].row.length) {
            return refuse(BAD);
        }
        if (page.count >= MOST_LINES) {
            return refuse(FULL);
        }
        history.keep(page);
        page.openLine(k + 1);
        page.lines[k].row.moveTail(i, page.lines[k + 1].row);
        anewCount = page.repaint(k, k + 1);
        return page.count;
    }

    // ---- words and rules

    public int word() {
        if (!isWordLike(text) || page.words.has(text, 0, text.length)) {
            return refuse(NO);
        }
        if (page.words.count >= MOST_WORDS) {
            return refuse(FULL);
        }
        history.keep(page);
        int number = page.words.count;
        page.words.add(text);
        anewCount = page.repaint(0, page.count);
        return number;
    }

    public int unword(int letter) {
        if (letter < 0 || letter > 'z' - 'a') {
            return refuse(BAD);
        }
        history.keep(page);
        int gone = page.words.removeWith('a' + letter);
        anewCount = page.repaint(0, page.count);
        return gone;
    }

    public int rule(int colour, int mode, int shade) {
        boolean fits = colour >= ANY && colour < COLOURS && mode >= ANY && mode < MODES;
        if (!fits || shade < 0 || shade > MOST_SHADE) {
            return refuse(BAD);
        }
        if (page.rules.count >= MOST_RULES) {
            return refuse(FULL);
        }
        history.keep(page);
        int number = page.rules.count;
        page.rules.add(colour, mode, shade);
        return number;
    }

    // ---- what is painted

    public int at(int k, int i, int what) {
        if (!page.hasByte(k, i)) {
            return refuse(BAD);
        }
        Line line = page.lines[k];
        switch (what) {
            case 0:
                return line.row.signAt(i);
            case 1:
                return line.colours[i];
            case 2:
                return page.rules.shadeOf(line.colours[i], line.modes[i]);
            default:
                return refuse(BAD);
        }
    }

    public int of(int k, int what) {
        if (!page.hasLine(k)) {
            return refuse(BAD);
        }
        Line line = page.lines[k];
        switch (what) {
            case 0:
                return line.row.length;
            case 1:
                return line.countSpans();
            case 2:
                return line.end.depth;
            case 3:
                return line.end.mode();
            case 4:
                return line.end.quote();
            case 5:
                return line.end.mark;
            default:
                return refuse(BAD);
        }
    }

    public int span(int k, int i, int what) {
        if (!page.hasLine(k) || i < 0 || what < 0 || what > 2) {
            return refuse(BAD);
        }
        Line line = page.lines[k];
        int begin = line.beginOfSpan(i);
        if (begin == NONE) {
            return NONE;
        }
        switch (what) {
            case 0:
                return begin;
            case 1:
                return line.endOfSpan(begin) - begin;
            default:
                return line.colours[begin];
        }
    }

    public int anew() {
        return anewCount;
    }

    public int painted(int colour) {
        if (colour < 0 || colour >= COLOURS) {
            return refuse(BAD);
        }
        int bytes = 0;
        for (int k = 0; k < page.count; k++) {
            bytes += page.lines[k].countBytes(colour);
        }
        return bytes;
    }

    // ---- what there is

    public int back() {
        if (history.count == 0) {
            return refuse(NO);
        }
        history.giveBack(page);
        // What is kept has no paint; painting it whole gives just the paint that it had.
        page.repaint(0, page.count);
        anewCount = 0;
        return history.count;
    }

    public int told(int what) {
        switch (what) {
            case 0:
            case 1:
            case 2:
                return refused[what];
            case 3:
                return text.length;
            case 4:
                return page.count;
            case 5:
                return page.words.count;
            case 6:
                return page.rules.count;
            case 7:
                return history.count;
            default:
                return refuse(BAD);
        }
    }

    public long digest() {
        long h = 2543;
        for (int what = 0; what <= 7; what++) {
            h = 31 * h + told(what);
        }
        h = 31 * h + anewCount;
        for (int k = 0; k < page.count; k++) {
            h = digestLine(h, k);
        }
        return h;
    }

    private long digestLine(long before, int k) {
        long h = before;
        for (int what = 0; what <= 5; what++) {
            h = 31 * h + of(k, what);
        }
        for (int i = 0; i < page.lines[k].row.length; i++) {
            for (int what = 0; what <= 2; what++) {
                h = 31 * h + at(k, i, what);
            }
        }
        return h;
    }

    private int refuse(int why) {
        int which = BAD - why;
        if (which >= 0 && which < refused.length) {
            refused[which]++;
        }
        return why;
    }

    private static boolean isByte(int c) {
        return c >= 32 && c <= 126;
    }

    private static boolean isLetter(int c) {
        return c >= 'a' && c <= 'z';
    }

    private static boolean isFigure(int c) {
        return c >= '0' && c <= '9';
    }

    private static boolean isCapital(int c) {
        return c >= 'A' && c <= 'Z';
    }

    private static boolean isQuote(int c) {
        return c == '"' || c == '\'';
    }

    private static boolean isWordLike(Row row) {
        if (row.length < 1 || row.length > MOST_LETTERS) {
            return false;
        }
        for (int i = 0; i < row.length; i++) {
            if (!isLetter(row.signAt(i))) {
                return false;
            }
        }
        return true;
    }

    /** A row of bytes with room for a fixed number of them. */
    private static final class Row {
        final int[] signs;
        int length;

        Row(int room) {
            signs = new int[Math.max(0, room)];
            length = 0;
        }

        /** NONE beyond the ends, so that a look at the byte behind needs no test of its own. */
        int signAt(int i) {
            return i >= 0 && i < length ? signs[i] : NONE;
        }

        void copyFrom(Row other) {
            length = Math.min(other.length, signs.length);
            System.arraycopy(other.signs, 0, signs, 0, length);
        }

        boolean isLike(Row other) {
            return holds(other, 0, length);
        }

        /** Whether the bytes from .. to - 1 are just those of the other row. */
        boolean holds(Row other, int from, int to) {
            if (from < 0 || to > length || to - from != other.length) {
                return false;
            }
            for (int i = 0; i < other.length; i++) {
                if (signs[from + i] != other.signs[i]) {
                    return false;
                }
            }
            return true;
        }

        void put(int i, int c) {
            if (i < 0 || i > length || length >= signs.length) {
                return;
            }
            System.arraycopy(signs, i, signs, i + 1, length - i);
            signs[i] = c;
            length++;
        }

        void erase(int i) {
            if (i < 0 || i >= length) {
                return;
            }
            System.arraycopy(signs, i + 1, signs, i, length - i - 1);
            length--;
        }

        void moveTail(int from, Row other) {
            if (from < 0 || from > length || length - from > other.signs.length) {
                return;
            }
            System.arraycopy(signs, from, other.signs, 0, length - from);
            other.length = length - from;
            length = from;
        }
    }

    /** What stands open: each entry of the pile is the byte that opened it, '{' for CODE. */
    private static final class State {
        final int[] pile;
        int depth;
        int mark;

        State() {
            pile = new int[MOST_OPEN];
            begin();
        }

        void begin() {
            pile[0] = '{';
            depth = 1;
            mark = NONE;
        }

        void copyFrom(State other) {
            System.arraycopy(other.pile, 0, pile, 0, MOST_OPEN);
            depth = other.depth;
            mark = other.mark;
        }

        boolean isLike(State other) {
            if (depth != other.depth || mark != other.mark) {
                return false;
            }
            for (int i = 0; i < depth && i < MOST_OPEN; i++) {
                if (pile[i] != other.pile[i]) {
                    return false;
                }
            }
            return true;
        }

        /** The opening byte that lies so many below the highest, NONE if there is none. */
        int opener(int below) {
            int i = depth - 1 - below;
            return i >= 0 && i < MOST_OPEN ? pile[i] : NONE;
        }

        int mode() {
            int opener = opener(0);
            if (isQuote(opener)) {
                return STRING;
            }
            return opener == '[' ? REMARK : CODE;
        }

        int quote() {
            int opener = opener(0);
            return isQuote(opener) ? opener : NONE;
        }

        boolean liesInString() {
            return isQuote(opener(1));
        }

        boolean open(int opener) {
            if (depth < 1 || depth >= MOST_OPEN) {
                return false;
            }
            pile[depth] = opener;
            depth++;
            return true;
        }

        /** The lowest CODE never goes. */
        void close() {
            if (depth > 1) {
                depth--;
            }
        }

        void closeLineStrings() {
            for (int i = 1; i < depth && i < MOST_OPEN; i++) {
                if (pile[i] == '\'') {
                    depth = i;
                }
            }
        }
    }

    /** A line: its bytes, each one's colour and the mode ahead of it, and what stands open behind. */
    private static final class Line {
        final Row row;
        final int[] colours;
        final int[] modes;
        final State end;
        boolean isNew;

        Line() {
            row = new Row(MOST_BYTES);
            colours = new int[MOST_BYTES];
            modes = new int[MOST_BYTES];
            end = new State();
            isNew = true;
        }

        /** Answers where the next byte to be painted stands. */
        int fill(int from, int to, int colour, int mode) {
            for (int i = Math.max(0, from); i < to && i < row.length; i++) {
                colours[i] = colour;
                modes[i] = mode;
            }
            return to;
        }

        int countBytes(int colour) {
            int bytes = 0;
            for (int i = 0; i < row.length; i++) {
                if (colours[i] == colour) {
                    bytes++;
                }
            }
            return bytes;
        }

        boolean beginsSpan(int i) {
            return i == 0 || colours[i] != colours[i - 1];
        }

        int countSpans() {
            int spans = 0;
            for (int i = 0; i < row.length; i++) {
                if (beginsSpan(i)) {
                    spans++;
                }
            }
            return spans;
        }

        int beginOfSpan(int number) {
            int spans = 0;
            for (int i = 0; i < row.length; i++) {
                if (beginsSpan(i)) {
                    if (spans == number) {
                        return i;
                    }
                    spans++;
                }
            }
            return NONE;
        }

        int endOfSpan(int begin) {
            for (int i = begin + 1; i < row.length; i++) {
                if (beginsSpan(i)) {
                    return i;
                }
            }
            return row.length;
        }
    }

    /** The words that count, as they came. */
    private static final class Words {
        final Row[] rows;
        int count;

        Words() {
            rows = new Row[MOST_WORDS];
            for (int w = 0; w < MOST_WORDS; w++) {
                rows[w] = new Row(MOST_LETTERS);
            }
            count = 0;
        }

        void copyFrom(Words other) {
            count = other.count;
            for (int w = 0; w < count; w++) {
                rows[w].copyFrom(other.rows[w]);
            }
        }

        boolean has(Row row, int from, int to) {
            for (int w = 0; w < count; w++) {
                if (row.holds(rows[w], from, to)) {
                    return true;
                }
            }
            return false;
        }

        void add(Row row) {
            if (count < MOST_WORDS) {
                rows[count].copyFrom(row);
                count++;
            }
        }

        int removeWith(int first) {
            int left = 0;
            for (int w = 0; w < count; w++) {
                if (rows[w].signAt(0) != first) {
                    rows[left].copyFrom(rows[w]);
                    left++;
                }
            }
            int gone = count - left;
            count = left;
            return gone;
        }
    }

    /**
     * The shades that the rules give, held as a table over colours and modes: as rules never go one
     * by one, each new one is laid over what the earlier ones gave.
     */
    private static final class Rules {
        final int[] shades;
        final int[] ranks;
        int count;

        Rules() {
            shades = new int[COLOURS * MODES];
            ranks = new int[COLOURS * MODES];
            count = 0;
        }

        void copyFrom(Rules other) {
            System.arraycopy(other.shades, 0, shades, 0, COLOURS * MODES);
            System.arraycopy(other.ranks, 0, ranks, 0, COLOURS * MODES);
            count = other.count;
        }

        void add(int colour, int mode, int shade) {
            int rank = (colour == ANY ? 0 : 2) + (mode == ANY ? 0 : 1);
            for (int c = 0; c < COLOURS; c++) {
                for (int m = 0; m < MODES; m++) {
                    boolean fits = (colour == ANY || colour == c) && (mode == ANY || mode == m);
                    // Of like ones the last told goes ahead, so an equal rank yields too.
                    if (fits && rank >= ranks[c * MODES + m]) {
                        shades[c * MODES + m] = shade;
                        ranks[c * MODES + m] = rank;
                    }
                }
            }
            count++;
        }

        int shadeOf(int colour, int mode) {
            int place = colour * MODES + mode;
            return place >= 0 && place < shades.length ? shades[place] : 0;
        }
    }

    /** Paints line after line; what stands open goes on from one to the next. */
    private static final class Painter {
        final State state;
        int comingMark;

        Painter() {
            state = new State();
            comingMark = NONE;
        }

        void paintLine(Line line, Words words) {
            if (state.mark != NONE) {
                paintTillMark(line);
                return;
            }
            comingMark = NONE;
            int next;
            for (int i = 0; i < line.row.length; i = next) {
                next = Math.max(i + 1, paintFrom(line, i, words));
            }
            state.mark = comingMark;
            state.closeLineStrings();
        }

        private void paintTillMark(Line line) {
            boolean isMark = line.row.length == 1 && line.row.signAt(0) == state.mark;
            line.fill(0, line.row.length, isMark ? SIGN_COLOUR : STRING_COLOUR, STRING);
            if (isMark) {
                state.mark = NONE;
            }
        }

        /** Answers where the next byte to be painted stands. */
        private int paintFrom(Line line, int i, Words words) {
            int c = line.row.signAt(i);
            int mode = state.mode();
            if (mode == REMARK) {
                return line.fill(i, i + 1, takeInRemark(c), REMARK);
            }
            if (mode == STRING) {
                boolean isPair = c == ESCAPE && i + 1 < line.row.length;
                return isPair
                        ? line.fill(i, i + 2, SIGN_COLOUR, STRING)
                        : line.fill(i, i + 1, takeInString(c), STRING);
            }
            if (isLetter(c)) {
                return paintName(line, i, words);
            }
            if (isFigure(c)) {
                return line.fill(i, endOfFigures(line.row, i), FIGURE_COLOUR, CODE);
            }
            if (c == '#') {
                return line.fill(i, line.row.length, REMARK_COLOUR, CODE);
            }
            if (beginsMark(line.row, i)) {
                comingMark = line.row.signAt(i + 1);
                return line.fill(i, i + 2, SIGN_COLOUR, CODE);
            }
            return line.fill(i, i + 1, takeInCode(c), CODE);
        }

        private int takeInRemark(int c) {
            if (c == '[') {
                return state.open('[') ? REMARK_COLOUR : WRONG_COLOUR;
            }
            if (c == ']') {
                state.close();
            }
            return REMARK_COLOUR;
        }

        private int takeInString(int c) {
            if (c == '{') {
                return state.open('{') ? SIGN_COLOUR : WRONG_COLOUR;
            }
            if (c == state.quote()) {
                state.close();
            }
            return STRING_COLOUR;
        }

        private int takeInCode(int c) {
            switch (c) {
                case '"':
                case '\'':
                    return state.open(c) ? STRING_COLOUR : WRONG_COLOUR;
                case '[':
                    return state.open('[') ? REMARK_COLOUR : WRONG_COLOUR;
                case '}':
                    if (!state.liesInString()) {
                        return WRONG_COLOUR;
                    }
                    state.close();
                    return SIGN_COLOUR;
                default:
                    return OTHER_COLOUR;
            }
        }

        private int paintName(Line line, int from, Words words) {
            int to = from + 1;
            while (to < line.row.length && isLetter(line.row.signAt(to))) {
                to++;
            }
            boolean counts = words.has(line.row, from, to);
            return line.fill(from, to, counts ? WORD_COLOUR : NAME_COLOUR, CODE);
        }

        private int endOfFigures(Row row, int from) {
            int to = from + 1;
            while (to < row.length && isFigure(row.signAt(to))) {
                to++;
            }
            return to;
        }

        private boolean beginsMark(Row row, int i) {
            return row.signAt(i) == '<'
                    && isCapital(row.signAt(i + 1))
                    && state.depth == 1
                    && comingMark == NONE;
        }
    }

    /** The lines, words and rules as they stand, with the paint of the lines. */
    private static final class Page {
        final Line[] lines;
        final Words words;
        final Rules rules;
        final Painter painter;
        int count;

        Page() {
            lines = new Line[MOST_LINES];
            for (int k = 0; k < MOST_LINES; k++) {
                lines[k] = new Line();
            }
            words = new Words();
            rules = new Rules();
            painter = new Painter();
            count = 0;
        }

        boolean hasLine(int k) {
            return k >= 0 && k < count && k < MOST_LINES;
        }

        boolean hasByte(int k, int i) {
            return hasLine(k) && i >= 0 && i < lines[k].row.length;
        }

        /** A new, empty line k; the unused line right behind all others becomes it. */
        void openLine(int k) {
            if (k < 0 || k > count || count >= MOST_LINES) {
                return;
            }
            Line line = lines[count];
            for (int j = count; j > k; j--) {
                lines[j] = lines[j - 1];
            }
            lines[k] = line;
            line.row.length = 0;
            line.isNew = true;
            count++;
        }

        /** Line k goes behind all others, to be used again. */
        void closeLine(int k) {
            if (!hasLine(k)) {
                return;
            }
            Line line = lines[k];
            for (int j = k; j < count - 1; j++) {
                lines[j] = lines[j + 1];
            }
            count--;
            lines[count] = line;
        }

        /**
         * Paints from line first on, at least up to line lastChanged and from there on until what
         * stands open behind a line is as it was: how many lines that were.
         */
        int repaint(int first, int lastChanged) {
            if (hasLine(first - 1)) {
                painter.state.copyFrom(lines[first - 1].end);
            } else {
                painter.state.begin();
            }
            int painted = 0;
            for (int k = Math.max(0, first); k < count; k++) {
                Line line = lines[k];
                painter.paintLine(line, words);
                painted++;
                boolean isAsBefore = !line.isNew && painter.state.isLike(line.end);
                line.end.copyFrom(painter.state);
                line.isNew = false;
                if (isAsBefore && k >= lastChanged) {
                    return painted;
                }
            }
            return painted;
        }
    }

    /** What a call found: lines, words and rules to go back to. */
    private static final class Kept {
        final Row[] rows;
        final Words words;
        final Rules rules;
        int count;

        Kept() {
            rows = new Row[MOST_LINES];
            for (int k = 0; k < MOST_LINES; k++) {
                rows[k] = new Row(MOST_BYTES);
            }
            words = new Words();
            rules = new Rules();
            count = 0;
        }

        void take(Page page) {
            count = page.count;
            for (int k = 0; k < count; k++) {
                rows[k].copyFrom(page.lines[k].row);
            }
            words.copyFrom(page.words);
            rules.copyFrom(page.rules);
        }

        void give(Page page) {
            page.count = count;
            for (int k = 0; k < count; k++) {
                page.lines[k].row.copyFrom(rows[k]);
            }
            page.words.copyFrom(words);
            page.rules.copyFrom(rules);
        }
    }

    /** The states back, in a ring: when it is full, the newest takes the place of the oldest. */
    private static final class History {
        final Kept[] ring;
        int count;
        int next;

        History() {
            ring = new Kept[MOST_BACK];
            for (int i = 0; i < MOST_BACK; i++) {
                ring[i] = new Kept();
            }
            count = 0;
            next = 0;
        }

        void keep(Page page) {
            ring[next].take(page);
            next = next + 1 < MOST_BACK ? next + 1 : 0;
            count = Math.min(count + 1, MOST_BACK);
        }

        void giveBack(Page page) {
            if (count == 0) {
                return;
            }
            next = next > 0 ? next - 1 : MOST_BACK - 1;
            count--;
            ring[next].give(page);
        }
    }
}
