import java.io.IOException;
import java.nio.file.Files;
import java.nio.file.Path;
import java.util.List;

/** The rules of ../shared/LANGUAGE.md that can be read off the source, and that a source which breaks one is found. */
public final class PlateauBenchLanguage {
    private static final String SOURCE = "src/main/java/PlateauBench.java";
    // The rule that is broken, and the class's body that breaks it.
    private static final String[][] BROKEN = {
        {"2", "interface Task { int run(); } int run(Task task) { return task.run(); } int all() { return run(() -> 1); }"},
        {"2", "interface Task { int run(); } Task task = this::all; int all() { return 1; }"},
        {"2", "int all() { class Local { } return 1; }"},
        {"3", "java.util.HashMap<Integer, Integer> map;"},
        {"3", "String[] texts() { return null; }"},
        {"3", "boolean[][] rows;"},
        {"3", "Object any;"},
        {"4", "int all() { return Math.addExact(1, 2); }"},
        {"4", "double all() { return Math.max(1.0, 2.0); }"},
        {"4", "String all() { return String.valueOf(1); }"},
        {"4", "int all() { return new StringBuilder().hashCode(); }"},
        {"4", "int all() { return Integer.MAX_VALUE; }"},
        {"4", "long all() { return System.nanoTime(); }"},
        {"4", "void all() { System.out.println(1); }"},
        {"4", "String all() { return \"\\u00e9\"; }"},
        {"4", "int all() { return new PlateauBench().hashCode(); }"},
        {"5", "static int count = 0;"},
        {"5", "static final int[] ROW = new int[5];"},
        {"5", "static final boolean[] ROW = {true};"},
        {"5", "static final StringBuilder TEXT = null;"},
        {"5", "static { }"},
        {"6", "void all() { throw new Error(); }"},
        {"6", "void all(String text) { throw new IllegalStateException(text); }"},
        {"6", "PlateauBench() { throw new IllegalStateException(); }"},
        {"6", "int all() { try { return other(1); } catch (ArithmeticException e) { return 0; } } int other(int n) { return n; }"},
        {"6", "synchronized void all() { synchronized (this) { } }"},
        {"6", "void all() { assert true; }"},
        {"6", "boolean all(String one, String other) { return one == other; }"},
        {"6", "boolean all(Integer one, Integer other) { return one != other; }"},
        {"8", "int all(int n) { return n > 0 ? all(n - 1) : 0; }"},
        {"8", "int all(int n) { return other(n); } int other(int n) { return n > 0 ? all(n - 1) : 0; }"},
        {"9", "void all() { for (;;) { } }"},
        {"9", "void all() { while (true) { } }"},
        {"9", "void all() { do { } while (true); }"},
        {"10", "String all(int n) { return \"a\" + n; }"},
        {"10", "String all(String text) { text += 1; return text; }"},
        {"11", "void all(int a, int b, int c, int d, int e, int f, int g, int h) { }"},
        {"11", "void all() {" + "\n".repeat(60) + "}"},
        {"11", classes(12)},
        {"11", "int a, b, c, d, e, f, g, h, i, j, k, l, m, n, o, p, q, r, s, t, u;"},
        {"11", chain(9)},
        {"12", "int[] all() { return new int[5]; }"},
        {"12", "PlateauBench() { for (int i = 0; i < 5; i++) { new StringBuilder(); } }"},
    };
    private static final String[] KEPT = {
        "static final int A = 1, B = 2; static final int[] ROW = {1, 2}; static final String TEXT = \"a\";",
        "int all(int n) { if (n < 0) { throw new IllegalArgumentException(\"below 0\"); } return Math.max(n, Integer.bitCount(n)); }",
        "int[] row = new int[5]; int[] all() { return row.clone(); } int length() { return row.length; }",
        "enum Kind { ONE, TWO; private static final Kind[] ALL = values(); } Kind kind = Kind.ONE;",
        "void all(int a, int b, int c, int d, int e, int f, int g) { " + "\n".repeat(59) + "}",
        "int a, b, c, d, e, f, g, h, i, j, k, l, m, n, o, p, q, r, s, t; static final int U = 1, V = 2;",
        classes(11),
        chain(8),
    };

    private PlateauBenchLanguage() {
    }

    public static void main(String[] args) throws IOException {
        Check.says("The program keeps to LANGUAGE.md");
        Check.due("faults", LanguageRules.faults(Files.readString(Path.of(SOURCE))), List.of());
        Check.says("What breaks a rule is found");
        for (String[] broken : BROKEN) {
            List<String> faults = LanguageRules.faults(wholeClass(broken[1]));
            Check.due(broken[1] + " told as " + faults, faults.stream().anyMatch(f -> f.startsWith(broken[0] + ":")), true);
        }
        Check.due("a package line", LanguageRules.faults("package bench;\n" + wholeClass("")).isEmpty(), false);
        Check.due("an import", LanguageRules.faults("import java.util.HashMap;\n" + wholeClass("")).isEmpty(), false);
        Check.says("What keeps to the rules is let through");
        for (String kept : KEPT) {
            Check.due(kept, LanguageRules.faults(wholeClass(kept)), List.of());
        }
        Check.end();
    }

    private static String wholeClass(String body) {
        return "public final class PlateauBench { " + body + " }";
    }

    private static String classes(int inside) {
        StringBuilder body = new StringBuilder();
        for (int i = 0; i < inside; i++) {
            body.append("private static final class Inner").append(i).append(" { } ");
        }
        return body.toString();
    }

    /** As many methods, each of which calls the next one. */
    private static String chain(int methods) {
        StringBuilder body = new StringBuilder();
        for (int i = 1; i < methods; i++) {
            body.append("void call").append(i).append("() { call").append(i + 1).append("(); } ");
        }
        return body.append("void call").append(methods).append("() { }").toString();
    }
}
