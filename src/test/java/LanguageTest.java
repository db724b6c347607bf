import java.io.IOException;
import java.nio.file.Files;
import java.nio.file.Path;
import java.util.List;

/** The program keeps to LANGUAGE.md, as far as that can be seen from its text. */
public final class LanguageTest {
    private static final Path PROGRAM = Path.of("src/main/java/RelayPassages.java");

    public static void main(String[] args) throws IOException {
        LanguageRules program = LanguageRules.of(Files.readString(PROGRAM));
        Check.due("what the program breaks", "[]", program.broken().toString());
        Check.due("what makes objects, so that no search, look or refused booking does", "[<init>, book]",
            program.makers().toString());
        Check.due("the calls that stand open at once are counted", true, program.deepest() >= 5);
        keptRules();
        brokenRules();
        Check.end();
    }

    /** What a plain program has is not told as broken: else the rules below would hold for any program. */
    private static void keptRules() {
        Check.due("a plain program", "[]", brokenBy("""
            private static final class Row {
                private final int[] cells = new int[3];
                private int sum(int below) {
                    int sum = 0;
                    for (int i = 0; i < 3; i++) {
                        sum += cells[i] < below ? cells[i] : 0;
                    }
                    return Math.max(sum, 0);
                }
            }
            public int now() { return new Row().sum(2); }
            """).toString());
    }

    private static void brokenRules() {
        breaks(1, "public int tick() { return 0; }"
            + " private static final class Row { private int tick() { return 0; } }");
        breaks(1, "public int tick() { return tick(0); } private int tick(int by) { return by; }");
        breaks(1, "public static final class Row { }");
        breaks(1, "private final class Row { }");
        breaks(2, "public int tick() { final class Row { } return 0; }");
        breaks(2, "interface Asked { int ask(); } static int ask(Asked asked) { return asked.ask(); }"
            + " public int tick() { return ask(() -> 1); }");
        breaks(2, "static final class Row { static int one() { return 1; } } interface Asked { int ask(); }"
            + " static int ask(Asked asked) { return asked.ask(); } public int tick() { return ask(Row::one); }");
        breaks(3, "private double half;");
        breaks(3, "private final int[][] rows = new int[2][];");
        breaks(3, "private final java.util.HashMap<Integer, Integer> rows = null;");
        breaks(3, "public int tick() { var none = (Object) null; return 0; }");
        breaks(4, "public int tick() { return (int) System.nanoTime(); }");
        breaks(4, "public int tick() { return Math.addExact(1, 2); }");
        breaks(4, "private final Object row = new Object();");
        breaks(5, "private static int made;");
        breaks(5, "private static final int[] ROW = new int[3];");
        breaks(5, "private static final int ONE; static { ONE = 1; }");
        breaks(6, "public RelayPassages() { throw new IllegalStateException(); }");
        breaks(6, "public int tick() { throw new Error(); }");
        breaks(6, "public int tick(int t) { throw new IllegalStateException(String.valueOf(t)); }");
        breaks(6, "public int tick() { try { return 1; } finally { } }");
        breaks(6, "public synchronized int tick() { return 1; }");
        breaks(6, "public int tick() { synchronized (this) { return 1; } }");
        breaks(6, "public int tick(int t) { assert t > 0; return 1; }");
        breaks(6, "public String toString() { return null; }");
        breaks(6, "public boolean tick(String a, String b) { return a == b; }");
        breaks(7, "public int tick(int t) { return 64 / t; }");
        breaks(7, "public int tick(int t) { return 64 % t; }");
        breaks(7, "public int tick(int[] row, int t) { return row[t++]; }");
        breaks(8, "private static int down(int t) { return t == 0 ? 0 : down(t - 1); }");
        breaks(8, "private static int down(int t) { return up(t); } private static int up(int t) { return down(t); }");
        breaks(9, "public int tick() { while (true) { } }");
        breaks(9, "public int tick() { for (;;) { } }");
        breaks(9, "public int tick(int t) { for (int i = 0; i < t; i--) { } return 0; }");
        breaks(9, "public int tick(int t) { for (int i = t; i >= 0; i++) { } return 0; }");
        breaks(9, "public int tick(int t) { int i = 0; while (i < t) { t--; } return 0; }");
        breaks(9, "public int tick(int t) { do { t++; } while (t < 9); return 0; }");
        breaks(10, "public int tick(int t) { return (\"t\" + t).length(); }");
        breaks(10, "public int tick(String t) { t += 1; return 0; }");
        breaks(11, "public int tick(int a, int b, int c, int d, int e, int f, int g, int h) { return 0; }");
        breaks(11, "public int tick() {" + "\n".repeat(60) + "return 0; }");
        breaks(11, chain(9));
        breaks(11, repeated("private int f%d;", 21));
        breaks(11, repeated("private static final class C%d { }", 12));
        breaks(12, "private static final class Row { } public int tick() { for (int i = 0; i < 3; i++) {"
            + " new Row(); } return 0; }");
        breaks(12, "private int one() { return 1; } public RelayPassages() { one(); }");
        breaks(12, "private static final class Row { Row(RelayPassages desk) { } }"
            + " private final Row row = new Row(this);");
        Check.due("calls eight deep are kept", "[]", brokenBy(chain(8)).toString());
    }

    private static void breaks(int rule, String members) {
        List<String> told = brokenBy(members);
        boolean found = told.stream().anyMatch(line -> line.startsWith("rule " + rule + ":"));
        Check.due("rule " + rule + " is seen to be broken by: " + members + " (told was " + told + ")", true, found);
    }

    private static List<String> brokenBy(String members) {
        return LanguageRules.of("public final class RelayPassages { " + members + " }").broken();
    }

    private static String chain(int length) {
        StringBuilder text = new StringBuilder("private static int f1() { return 1; }");
        for (int i = 2; i <= length; i++) {
            text.append(" private static int f").append(i).append("() { return f").append(i - 1).append("(); }");
        }
        return text.toString();
    }

    private static String repeated(String form, int times) {
        StringBuilder text = new StringBuilder();
        for (int i = 0; i < times; i++) {
            text.append(form.replace("%d", String.valueOf(i))).append(' ');
        }
        return text.toString();
    }
}
