import java.util.ArrayList;
import java.util.Collections;
import java.util.List;
import java.util.TreeSet;
import java.util.regex.Matcher;
import java.util.regex.Pattern;

/**
 * The document's words once more, told in the slowest and plainest way: a state is a text (the pile,
 * a bar, the mark), all is painted from line 0 at each question, and nothing is shared with the
 * class but the numbers of the document.
 */
final class Model {
    private static final Pattern TOKEN = Pattern.compile("[a-z]+|[0-9]+|#.*|<[A-Z]|.");

    /** A line is known by which object it is; behind is the state behind it when last painted. */
    private static final class Entry {
        String bytes;
        String behind = null;

        Entry(String bytes) {
            this.bytes = bytes;
        }
    }

    private record Painted(String colours, String modes, String end) {}

    private record Snapshot(List<String> lines, List<String> words, List<int[]> rules) {}

    private String text = "";
    private final List<Entry> lines = new ArrayList<>();
    private final List<String> words = new ArrayList<>();
    private final List<int[]> rules = new ArrayList<>();
    private final List<Snapshot> backs = new ArrayList<>();
    private final int[] refused = new int[3];
    private int anew = 0;

    // ---- painting

    private Painted paint(String bytes, String begin) {
        String mark = begin.substring(begin.indexOf('|') + 1);
        if (!mark.isEmpty()) {
            boolean ends = bytes.equals(mark);
            String pile = begin.substring(0, begin.indexOf('|'));
            return new Painted((ends ? "7" : "4").repeat(bytes.length()), "1".repeat(bytes.length()),
                    ends ? pile + "|" : begin);
        }
        String pile = begin.substring(0, begin.indexOf('|'));
        String colours = "";
        String modes = "";
        String newMark = "";
        String rest = bytes;
        while (!rest.isEmpty()) {
            char top = pile.charAt(pile.length() - 1);
            String token = token(rest, top, pile, newMark);
            String key = token.substring(0, 1);
            String colour;
            String pushed = "";
            boolean pops = false;
            if (top == 'R') {
                colour = "5";
                pushed = key.equals("[") ? "R" : "";
                pops = key.equals("]");
            } else if (top == 'C') {
                boolean closes = key.equals("}") && pile.length() > 1;
                colour = codeColour(token, closes);
                pushed = key.equals("[") ? "R" : key.equals("\"") || key.equals("'") ? key : "";
                pops = closes;
                if (key.equals("<") && token.length() == 2) {
                    newMark = token.substring(1);
                }
            } else {
                colour = token.length() == 2 || key.equals("{") ? "7" : "4";
                pushed = token.equals("{") ? "C" : "";
                pops = token.equals(String.valueOf(top));
            }
            if (!pushed.isEmpty() && pile.length() == 6) {
                pushed = "";
                colour = "6";
            }
            colours += colour.repeat(token.length());
            modes += (top == 'C' ? "0" : top == 'R' ? "2" : "1").repeat(token.length());
            pile = pops ? pile.substring(0, pile.length() - 1) : pile + pushed;
            rest = rest.substring(token.length());
        }
        int cut = pile.indexOf('\'');
        return new Painted(colours, modes, (cut < 0 ? pile : pile.substring(0, cut)) + "|" + newMark);
    }

    private static String token(String rest, char top, String pile, String newMark) {
        if (top == 'R') {
            return rest.substring(0, 1);
        }
        if (top != 'C') {
            return rest.substring(0, rest.charAt(0) == '\\' && rest.length() > 1 ? 2 : 1);
        }
        Matcher matcher = TOKEN.matcher(rest);
        if (!matcher.lookingAt()) {
            throw new IllegalStateException(rest);
        }
        String token = matcher.group();
        boolean isMark = token.startsWith("<") && token.length() == 2;
        return isMark && !(pile.equals("C") && newMark.isEmpty()) ? "<" : token;
    }

    private String codeColour(String token, boolean closes) {
        if (token.matches("[a-z]+")) {
            return words.contains(token) ? "2" : "1";
        }
        if (token.matches("[0-9]+")) {
            return "3";
        }
        return switch (token.charAt(0)) {
            case '"', '\'' -> "4";
            case '[', '#' -> "5";
            case '}' -> closes ? "7" : "6";
            case '<' -> token.length() == 2 ? "7" : "0";
            default -> "0";
        };
    }

    private List<Painted> paintAll() {
        List<Painted> all = new ArrayList<>();
        String state = "C|";
        for (Entry line : lines) {
            Painted painted = paint(line.bytes, state);
            all.add(painted);
            state = painted.end;
        }
        return all;
    }

    private void change(TreeSet<Integer> changed) {
        List<Painted> now = paintAll();
        if (changed.isEmpty() || changed.first() >= lines.size()) {
            anew = 0;
        } else {
            int last = changed.first();
            while (last < lines.size() - 1
                    && !(changed.tailSet(last, false).isEmpty()
                            && now.get(last).end.equals(lines.get(last).behind))) {
                last++;
            }
            anew = last - changed.first() + 1;
        }
        for (int k = 0; k < lines.size(); k++) {
            lines.get(k).behind = now.get(k).end;
        }
    }

    private void changeLine(int k) {
        change(new TreeSet<>(List.of(k)));
    }

    // ---- what is refused, states back

    private int refuse(int why) {
        refused[-2 - why]++;
        return why;
    }

    private boolean isLine(int k) {
        return k >= 0 && k < lines.size();
    }

    private static boolean isByte(int c) {
        return c >= 32 && c <= 126;
    }

    private void keep() {
        List<String> bytes = new ArrayList<>();
        for (Entry line : lines) {
            bytes.add(line.bytes);
        }
        backs.add(new Snapshot(bytes, new ArrayList<>(words), new ArrayList<>(rules)));
        if (backs.size() > 5) {
            backs.remove(0);
        }
    }

    // ---- the face

    int type(int c) {
        if (!isByte(c)) return refuse(-2);
        if (text.length() == 30) return refuse(-4);
        text += (char) c;
        return text.length();
    }

    int clear() {
        int had = text.length();
        text = "";
        return had;
    }

    int inserts(int k) {
        if (k < 0 || k > lines.size()) return refuse(-2);
        if (lines.size() == 10) return refuse(-4);
        keep();
        lines.add(k, new Entry(text));
        changeLine(k);
        // A new line has no state, so a line behind it is always painted, too.
        return lines.size();
    }

    int sets(int k) {
        if (!isLine(k)) return refuse(-2);
        keep();
        String had = lines.get(k).bytes;
        lines.get(k).bytes = text;
        change(had.equals(text) ? new TreeSet<>() : new TreeSet<>(List.of(k)));
        return had.length();
    }

    int drops(int k) {
        if (!isLine(k)) return refuse(-2);
        keep();
        lines.remove(k);
        changeLine(k);
        return lines.size();
    }

    int puts(int k, int i, int c) {
        if (!isLine(k) || i < 0 || i > lines.get(k).bytes.length() || !isByte(c)) return refuse(-2);
        Entry line = lines.get(k);
        if (line.bytes.length() == 30) return refuse(-4);
        keep();
        line.bytes = line.bytes.substring(0, i) + (char) c + line.bytes.substring(i);
        changeLine(k);
        return line.bytes.length();
    }

    int erases(int k, int i) {
        if (!isLine(k) || i < 0 || i >= lines.get(k).bytes.length()) return refuse(-2);
        keep();
        Entry line = lines.get(k);
        char gone = line.bytes.charAt(i);
        line.bytes = line.bytes.substring(0, i) + line.bytes.substring(i + 1);
        changeLine(k);
        return gone;
    }

    int splits(int k, int i) {
        if (!isLine(k) || i < 0 || i > lines.get(k).bytes.length()) return refuse(-2);
        if (lines.size() == 10) return refuse(-4);
        keep();
        Entry line = lines.get(k);
        lines.add(k + 1, new Entry(line.bytes.substring(i)));
        line.bytes = line.bytes.substring(0, i);
        change(new TreeSet<>(List.of(k, k + 1)));
        return lines.size();
    }

    private void changeAll() {
        TreeSet<Integer> all = new TreeSet<>();
        for (int k = 0; k < lines.size(); k++) {
            all.add(k);
        }
        change(all);
    }

    int word() {
        if (!text.matches("[a-z]{1,5}") || words.contains(text)) return refuse(-3);
        if (words.size() == 4) return refuse(-4);
        keep();
        words.add(text);
        changeAll();
        return words.size() - 1;
    }

    int unword(int letter) {
        if (letter < 0 || letter > 25) return refuse(-2);
        keep();
        int had = words.size();
        words.removeIf(word -> word.charAt(0) == 'a' + letter);
        changeAll();
        return had - words.size();
    }

    int rule(int colour, int mode, int shade) {
        if (colour < -1 || colour > 7 || mode < -1 || mode > 2 || shade < 0 || shade > 99) return refuse(-2);
        if (rules.size() == 12) return refuse(-4);
        keep();
        rules.add(new int[] {colour, mode, shade});
        return rules.size() - 1;
    }

    private int shade(int colour, int mode) {
        int[][] wanted = {{colour, mode}, {colour, -1}, {-1, mode}, {-1, -1}};
        List<int[]> latestFirst = new ArrayList<>(rules);
        Collections.reverse(latestFirst);
        for (int[] want : wanted) {
            for (int[] rule : latestFirst) {
                if (rule[0] == want[0] && rule[1] == want[1]) {
                    return rule[2];
                }
            }
        }
        return 0;
    }

    int at(int k, int i, int what) {
        if (!isLine(k) || i < 0 || i >= lines.get(k).bytes.length() || what < 0 || what > 2) return refuse(-2);
        Painted painted = paintAll().get(k);
        return what == 0 ? lines.get(k).bytes.charAt(i)
                : what == 1 ? painted.colours.charAt(i) - '0'
                : shade(painted.colours.charAt(i) - '0', painted.modes.charAt(i) - '0');
    }

    /** The colours parted, each span a text. */
    private static List<String> spans(String colours) {
        List<String> spans = new ArrayList<>();
        Matcher matcher = Pattern.compile("(.)\\1*").matcher(colours);
        while (matcher.find()) {
            spans.add(matcher.group());
        }
        return spans;
    }

    int of(int k, int what) {
        if (!isLine(k) || what < 0 || what > 5) return refuse(-2);
        Painted painted = paintAll().get(k);
        String pile = painted.end.substring(0, painted.end.indexOf('|'));
        char top = pile.charAt(pile.length() - 1);
        return switch (what) {
            case 0 -> lines.get(k).bytes.length();
            case 1 -> spans(painted.colours).size();
            case 2 -> pile.length();
            case 3 -> top == 'C' ? 0 : top == 'R' ? 2 : 1;
            case 4 -> top == 'C' || top == 'R' ? -1 : top;
            default -> painted.end.endsWith("|") ? -1 : painted.end.charAt(painted.end.length() - 1);
        };
    }

    int span(int k, int i, int what) {
        if (!isLine(k) || i < 0 || what < 0 || what > 2) return refuse(-2);
        List<String> spans = spans(paintAll().get(k).colours);
        if (i >= spans.size()) return -1;
        int begin = String.join("", spans.subList(0, i)).length();
        return what == 0 ? begin : what == 1 ? spans.get(i).length() : spans.get(i).charAt(0) - '0';
    }

    int anew() {
        return anew;
    }

    int painted(int colour) {
        if (colour < 0 || colour > 7) return refuse(-2);
        int bytes = 0;
        for (Painted painted : paintAll()) {
            bytes += (int) painted.colours.chars().filter(c -> c == '0' + colour).count();
        }
        return bytes;
    }

    int back() {
        if (backs.isEmpty()) return refuse(-3);
        Snapshot last = backs.remove(backs.size() - 1);
        lines.clear();
        for (String bytes : last.lines) {
            lines.add(new Entry(bytes));
        }
        words.clear();
        words.addAll(last.words);
        rules.clear();
        rules.addAll(last.rules);
        change(new TreeSet<>());
        return backs.size();
    }

    int told(int what) {
        return switch (what) {
            case 0, 1, 2 -> refused[what];
            case 3 -> text.length();
            case 4 -> lines.size();
            case 5 -> words.size();
            case 6 -> rules.size();
            case 7 -> backs.size();
            default -> refuse(-2);
        };
    }

    long digest() {
        long h = 2543;
        for (int what = 0; what <= 7; what++) {
            h = 31 * h + told(what);
        }
        h = 31 * h + anew;
        List<Painted> all = paintAll();
        for (int k = 0; k < lines.size(); k++) {
            for (int what = 0; what <= 5; what++) {
                h = 31 * h + of(k, what);
            }
            for (int i = 0; i < lines.get(k).bytes.length(); i++) {
                int colour = all.get(k).colours.charAt(i) - '0';
                h = 31 * h + lines.get(k).bytes.charAt(i);
                h = 31 * h + colour;
                h = 31 * h + shade(colour, all.get(k).modes.charAt(i) - '0');
            }
        }
        return h;
    }
}
