import java.util.List;
import java.util.Map;

/** Members of a class, or lines ahead of it, that break a rule of LANGUAGE.md each, by the number of the rule. */
final class BrokenRules {
    static final Map<String, List<String>> ALL = Map.ofEntries(
            Map.entry("1", List.of(
                    "private class Inside { }",
                    "} final class Beside {",
                    "package town;")),
            Map.entry("2", List.of(
                    "private interface Call { int of(); } private static Call made() { return () -> 1; }",
                    "private interface Call { Broken of(); } private static Call made() { return Broken::new; }",
                    "private static int one() { class Local { int one; } return new Local().one; }")),
            Map.entry("3", List.of(
                    "private java.util.HashMap<String, String> map;",
                    "private String[] texts;",
                    "private static Number one() { return null; }",
                    "private static double cut(double a, double b) { return a % b; }",
                    "private static boolean look(Object a) { return (Number) a == null; }")),
            Map.entry("4", List.of(
                    "private static int great() { return Integer.MAX_VALUE; }",
                    "private static int sum(int a) { return Math.addExact(a, 1); }",
                    "private static long now() { return System.nanoTime(); }",
                    "import java.util.Random;",
                    "import static java.util.Arrays.fill;",
                    "private static String told(int a) { return String.valueOf(a); }",
                    "private static String told() { return \"a\".trim(); }")),
            Map.entry("5", List.of(
                    "private static int count;",
                    "private static final Broken ONE = new Broken();",
                    "private static final int[] ROW = new int[3];",
                    "private static final double HALF = 0.5;",
                    "static { }")),
            Map.entry("6", List.of(
                    "private static void no() { throw new NullPointerException(); }",
                    "private static void no(String why) { throw new IllegalStateException(why); }",
                    "private static void no() { try { throw new IllegalStateException(); } catch (RuntimeException e) { } }",
                    "private static void no() { try { } finally { } }",
                    "private static void no(int[] a) { try { a[0] = 1; } catch (ArrayIndexOutOfBoundsException e) { } }",
                    "private static void no(Object a) { synchronized (a) { } }",
                    "private static synchronized void no() { }",
                    "private static void no(int a) { assert a > 0; }",
                    "private static boolean no(String a, String b) { return a == b; }",
                    "private static void no() { new IllegalStateException(); }",
                    "public String toString() { return \"\"; }",
                    "Broken(int a) { throw new IllegalStateException(); }",
                    "private static final class No extends RuntimeException { }")),
            Map.entry("7", List.of(
                    "private static int cut(int a, int b) { return a / b; }",
                    "private static int cut(int a, int b) { a %= b; return a; }",
                    "private static int cut(int a) { return a / 0; }",
                    "private static int of(int[] a, int b) { return a[a[b]]; }")),
            Map.entry("8", List.of(
                    "private static int down(int a) { return down(a - 1); }",
                    "private static int down(int a) { return up(a); } private static int up(int a) { return down(a); }")),
            Map.entry("9", List.of(
                    "private static void go() { while (true) { } }",
                    "private static void go() { for (;;) { } }",
                    "private static void go() { do { } while (true); }")),
            Map.entry("10", List.of(
                    "private static String told(int a) { return \"a\" + a; }",
                    "private static String told(String a) { a += 1; return a; }")),
            Map.entry("11", List.of(
                    "private static void many(int a, int b, int c, int d, int e, int f, int g, int h) { }",
                    "private static void tall() {" + "\n".repeat(61) + "}",
                    "private int a, b, c, d, e, f, g, h, i, j, k, l, m, n, o, p, q, r, s, t, u;",
                    nests(12),
                    deep(9))),
            Map.entry("12", List.of(
                    "Broken(int a) { go(); } private void go() { }",
                    "private static final class Out { Broken of; } Broken(Out a) { a.of = this; }")));

    private BrokenRules() {
    }

    static String classOf(String broken) {
        boolean isHead = broken.startsWith("import ") || broken.startsWith("package ");
        return (isHead ? broken : "") + "\npublic final class Broken {\n    public Broken() { }\n    "
                + (isHead ? "" : broken) + "\n}\n";
    }

    private static String nests(int count) {
        StringBuilder members = new StringBuilder();
        for (int i = 0; i < count; i++) {
            members.append("private static final class C").append(i).append(" { }\n");
        }
        return members.toString();
    }

    private static String deep(int count) {
        StringBuilder members = new StringBuilder();
        for (int i = 1; i < count; i++) {
            members.append("private static void m").append(i).append("() { m").append(i + 1).append("(); }\n");
        }
        return members.append("private static void m").append(count).append("() { }").toString();
    }
}
