import java.io.IOException;
import java.nio.file.Files;
import java.nio.file.Path;
import java.util.Set;

// The source keeps to the rules of LANGUAGE.md that the compiler's tree can tell; and that the look
// at it is no idle one: sources that break a rule are found to break it. Run from the project's root.
public final class LanguageTest {
    private static final Path SOURCE = Path.of("src/main/java/LotBooks.java");
    private static final Report REPORT = new Report();

    public static void main(String[] args) throws IOException {
        Set<String> faults = LanguageRules.faultsOf(Files.readString(SOURCE));
        faults.forEach(System.out::println);
        REPORT.due("faults of " + SOURCE, faults.size(), 0);
        theShape();
        theTypes();
        whatIsCalled();
        theStatements();
        theSizes();
        REPORT.end();
    }

    private static String file(String members) {
        return "public final class LotBooks { public int open(int a) { return a; }\n" + members + "\n}";
    }

    private static void kept(String members) throws IOException {
        Set<String> faults = LanguageRules.faultsOf(file(members));
        REPORT.holds(members + " is fine, but: " + faults, faults.isEmpty());
    }

    private static void broken(int rule, String members) throws IOException {
        brokenFile(rule, file(members));
    }

    private static void brokenFile(int rule, String source) throws IOException {
        Set<String> faults = LanguageRules.faultsOf(source);
        REPORT.holds(source + "\n  breaks rule " + rule + " alone, but: " + faults,
                !faults.isEmpty() && faults.stream().allMatch(one -> one.startsWith(rule + ": ")));
    }

    private static void theShape() throws IOException {
        kept("private static final class In { int a; }");
        kept("static class In { int a; }");
        brokenFile(0, "package here; " + file(""));
        brokenFile(0, file("") + " class Other { }");
        brokenFile(0, file("int"));
        brokenFile(1, "final class LotBooks { }");
        brokenFile(1, "public class LotBooks { }");
        broken(1, "int seen;");
        broken(1, "void seen() { }");
        broken(1, "protected void seen() { }");
        broken(1, "public static class In { }");
        broken(1, "private int open(long a) { return 0; }");
        broken(2, "private class In { }");
        broken(2, "private void a() { class In { } }");
        broken(2, "private interface I { int a(); } private I i() { return new I() { public int a() { return 0; } }; }");
        broken(2, "private interface I { int a(); } private I i() { return () -> 0; }");
        broken(2, "private interface I { int a(); } private int b() { return 0; } private I i() { return this::b; }");
    }

    private static void theTypes() throws IOException {
        kept("private int[][] grid; private int[] row; private LotBooks[] all; private String text;");
        broken(3, "private Object any;");
        broken(3, "private java.util.Map<Integer, Integer> map;");
        broken(3, "private int[][][] deep;");
        broken(3, "private LotBooks[][] deep;");
        broken(3, "private Object any() { return null; }");
        kept("private static final int A = 1, B = A + 1; private static final int[] C = {1, 2};");
        broken(5, "private static int a = 1;");
        broken(5, "private static final int[] A = new int[3];");
        broken(5, "private static final LotBooks A = null;");
        broken(5, "static { }");
    }

    private static void whatIsCalled() throws IOException {
        kept("private long a(long b) { return Math.floorDiv(b, 2L) + Math.min(1, 2) + Long.compare(b, 3); }");
        kept("private int[] a(int[] b) { java.util.Arrays.fill(b, 1); return b.clone(); }");
        broken(4, "private int a() { return Math.addExact(1, 2); }");
        broken(4, "private double a() { return Math.sqrt(2); }");
        broken(4, "private long a() { return System.nanoTime(); }");
        broken(4, "private void a(int[] b) { java.util.Arrays.sort(b); }");
        broken(4, "private void a() { System.out.println(); }");
        broken(4, "private int a(String b) { return b.hashCode(); }");
        broken(6, "private static class In { public String toString() { return null; } String a() { return toString(); } }");
        broken(8, "private int a(int b) { return b == 0 ? 0 : a(b - 1); }");
        broken(8, "private void a() { b(); } private void b() { a(); }");
    }

    private static void theStatements() throws IOException {
        broken(6, "private void a() { throw null; }");
        broken(6, "private void a() { try { open(1); } finally { open(2); } }");
        broken(6, "private void a() { synchronized (this) { open(1); } }");
        broken(6, "private synchronized void a() { }");
        broken(6, "private void a() throws Exception { }");
        broken(6, "private void a() { assert true; }");
        broken(6, "private boolean a(String b, String c) { return b == c; }");
        broken(6, "private static class A { } private static class B extends A { } private B b(A a) { return (B) a; }");
        kept("private long a(int b) { return (long) b; }");
        kept("private void a() { for (int i = 0; i < 3; i++) { open(i); } }");
        broken(9, "private void a() { for (;;) { open(1); } }");
        broken(9, "private void a() { while (true) { open(1); } }");
        broken(9, "private void a() { do { open(1); } while (true); }");
        broken(10, "private String a(String b) { return b + 1; }");
        broken(10, "private String a(String b) { b += 1; return b; }");
    }

    private static String each(int count, String text) {
        StringBuilder all = new StringBuilder();
        for (int i = 0; i < count; i++) {
            all.append(text.replace("#n", "" + (i + 1)).replace("#", "" + i));
        }
        return all.toString();
    }

    private static void theSizes() throws IOException {
        kept("private void a(int a, int b, int c, int d, int e, int f, int g) { }");
        broken(11, "private void a(int a, int b, int c, int d, int e, int f, int g, int h) { }");
        kept("private void a() {\n" + "open(1);\n".repeat(58) + "}");
        broken(11, "private void a() {\n" + "open(1);\n".repeat(59) + "}");
        kept(each(20, "private int f#; ") + "private static final int A = 1;");
        broken(11, each(21, "private int f#; "));
        kept(each(11, "private static class C# { } "));
        broken(11, each(12, "private static class C# { } "));
        kept(each(7, "private void m#() { m#n(); } ") + "private void m7() { }");
        broken(11, each(8, "private void m#() { m#n(); } ") + "private void m8() { }");
    }
}
