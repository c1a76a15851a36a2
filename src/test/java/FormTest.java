import java.io.IOException;
import java.nio.file.Files;
import java.nio.file.Path;
import java.util.List;
import java.util.Set;
import java.util.TreeSet;

/** The form of the code: no fault in the class, and each fault found where one was put in. */
final class FormTest {
    private static final Check CHECK = new Check("FormTest");

    public static void main(String[] args) throws IOException {
        List<String> faults = Form.faultsOf(Files.readString(Path.of("src/main/java/PaintedLines.java")));
        CHECK.due("faults", String.join("; ", faults), "");
        faultsAreFound();
        CHECK.end();
    }

    private static void faultsAreFound() throws IOException {
        finds("none", "private int a() { return Math.max(1, 2); }");
        finds("2", "private class Inner { }");
        finds("2", "private static interface Asks { int ask(); } private Asks a; "
                + "PaintedLines() { a = () -> 1; }");
        finds("3", "private String s;");
        finds("3", "private void a() { Integer i = 1; }");
        finds("4", "private long a() { return System.nanoTime(); }");
        finds("4", "private int a() { return Math.addExact(1, 1); }");
        finds("5", "private static int a;");
        finds("6", "private void a() { throw null; }");
        finds("6", "private void a() { try { b(); } finally { b(); } } private void b() { }");
        finds("8", "private void a() { a(); }");
        finds("8", "private void a() { b(); } private void b() { a(); }");
        finds("9", "private void a() { for (;;) { } }");
        finds("9", "private void a(boolean b) { while (b) { } }");
        finds("9", "private void a(int i, boolean b) { while (i < 3 || b) { } }");
        finds("none", "private void a(int i, boolean b) { while (b && i < 3) { i++; } }");
        finds("11", chain(9));
        finds("none", chain(8));
        finds("11", "private void a(int a, int b, int c, int d, int e, int f, int g, int h) { }");
        finds("12", "private int[] a() { return new int[2]; }");
        finds("12", "static class B { } private B a() { return new B(); }");
        finds("12", "static class B { B(PaintedLines x) { } } final B b; PaintedLines() { b = new B(this); }");
        finds("12", "static class B { B(int[] x) { } } final B b; final int[] a; "
                + "PaintedLines() { a = new int[2]; b = new B(a); }");
        finds("12", "static class B { B(int[] x) { } } final B b; final int[] a; "
                + "PaintedLines() { this.a = new int[2]; b = new B(this.a); }");
        finds("12", "static class B { B() { b(); } void b() { } }");
        finds("none", "static class B { B(int x) { } } final B b; PaintedLines() { b = new B(3); }");
    }

    private static String chain(int length) {
        StringBuilder methods = new StringBuilder();
        for (int i = 1; i < length; i++) {
            methods.append("private void a").append(i).append("() { a").append(i + 1).append("(); } ");
        }
        return methods.append("private void a").append(length).append("() { }").toString();
    }

    private static void finds(String rule, String members) throws IOException {
        List<String> faults = Form.faultsOf("public final class PaintedLines { " + members + " }");
        String want = rule.equals("none") ? "[]" : "[" + rule + "]";
        CHECK.due("rules broken by " + members, rulesOf(faults).toString(), want);
    }

    private static Set<String> rulesOf(List<String> faults) {
        Set<String> rules = new TreeSet<>();
        for (String fault : faults) {
            rules.add(fault.substring(0, fault.indexOf(':')));
        }
        return rules;
    }
}
