import java.util.ArrayList;
import java.util.List;
import java.util.Random;

/** All promises: long runs of calls, drawn from fixed seeds, answered by the class and by the model. */
final class ModelTest {
    private static final int RUNS = 600;
    private static final int CALLS = 512;
    private static final String OFTEN = "\"\"'[]{}{}#<<ABABab \\01if";

    private final Random random;
    private final int seed;
    private final PaintedLines x = new PaintedLines();
    private final Model model = new Model();
    private final List<String> calls = new ArrayList<>();
    private int lines = 0;

    private ModelTest(int seed) {
        this.seed = seed;
        random = new Random(seed);
    }

    public static void main(String[] args) {
        int wrong = 0;
        for (int seed = 1; seed <= RUNS && wrong < 5; seed++) {
            if (!new ModelTest(seed).isAsDue()) {
                wrong++;
            }
        }
        System.out.println("ModelTest: " + RUNS + " runs of " + CALLS + " calls, " + wrong + " of them not as due");
        if (wrong != 0) {
            System.exit(1);
        }
    }

    private boolean isAsDue() {
        for (int n = 0; n < CALLS; n++) {
            long[] answers = call();
            if (answers[0] != answers[1]) {
                System.out.println("ModelTest: seed " + seed + ": " + String.join("; ", calls)
                        + " answered " + answers[0] + ", due is " + answers[1]);
                return false;
            }
            lines = model.told(4);
        }
        return true;
    }

    /** Most often a number that is as told, at times one right beyond, seldom one far beyond. */
    private int number(int from, int to) {
        int kind = random.nextInt(60);
        if (kind == 0) {
            return random.nextInt();
        }
        if (kind <= 2) {
            return from - 1;
        }
        if (kind <= 4) {
            return to + 1;
        }
        return from + random.nextInt(Math.max(1, to - from + 1));
    }

    private int sign() {
        int kind = random.nextInt(10);
        return kind < 8 ? OFTEN.charAt(random.nextInt(OFTEN.length())) : number(32, 126);
    }

    private int place(int k, int more) {
        int length = k >= 0 && k < lines ? model.of(k, 0) : 0;
        return number(0, length - 1 + more);
    }

    private void say(String name, int... numbers) {
        StringBuilder call = new StringBuilder(name).append('(');
        for (int i = 0; i < numbers.length; i++) {
            call.append(i == 0 ? "" : ", ").append(numbers[i]);
        }
        calls.add(call.append(')').toString());
    }

    private long[] both(long got, long want) {
        return new long[] {got, want};
    }

    private long[] call() {
        int kind = random.nextInt(100);
        if (kind < 22) {
            int c = sign();
            say("type", c);
            return both(x.type(c), model.type(c));
        }
        if (kind < 26) {
            say("clear");
            return both(x.clear(), model.clear());
        }
        if (kind < 66) {
            return callOnALine(random.nextInt(12));
        }
        if (kind < 76) {
            return callOnWordsAndRules(random.nextInt(8));
        }
        if (kind < 82) {
            say("back");
            return both(x.back(), model.back());
        }
        return question(random.nextInt(9));
    }

    private long[] callOnALine(int kind) {
        int k = number(0, lines - 1);
        if (kind < 3) {
            int ahead = number(0, lines);
            say("inserts", ahead);
            return both(x.inserts(ahead), model.inserts(ahead));
        }
        if (kind < 4) {
            say("sets", k);
            return both(x.sets(k), model.sets(k));
        }
        if (kind < 5) {
            say("drops", k);
            return both(x.drops(k), model.drops(k));
        }
        if (kind < 8) {
            int i = place(k, 1);
            int c = sign();
            say("puts", k, i, c);
            return both(x.puts(k, i, c), model.puts(k, i, c));
        }
        if (kind < 10) {
            int i = place(k, 0);
            say("erases", k, i);
            return both(x.erases(k, i), model.erases(k, i));
        }
        int i = place(k, 1);
        say("splits", k, i);
        return both(x.splits(k, i), model.splits(k, i));
    }

    private long[] callOnWordsAndRules(int kind) {
        if (kind < 4) {
            if (random.nextInt(3) > 0) {
                String word = List.of("a", "b", "if", "ab", "iif", "abcde", "zz").get(random.nextInt(7));
                x.clear();
                model.clear();
                say("clear");
                for (char c : word.toCharArray()) {
                    x.type(c);
                    model.type(c);
                    say("type", c);
                }
            }
            say("word");
            return both(x.word(), model.word());
        }
        if (kind < 5) {
            int letter = random.nextInt(3) == 0 ? number(0, 25) : random.nextInt(2) * 8;
            say("unword", letter);
            return both(x.unword(letter), model.unword(letter));
        }
        int colour = number(-1, 7);
        int mode = number(-1, 2);
        int shade = number(0, 99);
        say("rule", colour, mode, shade);
        return both(x.rule(colour, mode, shade), model.rule(colour, mode, shade));
    }

    private long[] question(int kind) {
        int k = number(0, lines - 1);
        switch (kind) {
            case 0: {
                int i = place(k, 0);
                int what = number(0, 2);
                say("at", k, i, what);
                return both(x.at(k, i, what), model.at(k, i, what));
            }
            case 1: {
                int what = number(0, 5);
                say("of", k, what);
                return both(x.of(k, what), model.of(k, what));
            }
            case 2: {
                int i = number(0, 12);
                int what = number(0, 2);
                say("span", k, i, what);
                return both(x.span(k, i, what), model.span(k, i, what));
            }
            case 3:
                say("anew");
                return both(x.anew(), model.anew());
            case 4: {
                int colour = number(0, 7);
                say("painted", colour);
                return both(x.painted(colour), model.painted(colour));
            }
            case 5: {
                int what = number(0, 7);
                say("told", what);
                return both(x.told(what), model.told(what));
            }
            default:
                say("digest");
                return both(x.digest(), model.digest());
        }
    }
}
