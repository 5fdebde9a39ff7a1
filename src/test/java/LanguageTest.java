import java.nio.file.Files;
import java.nio.file.Path;
import java.util.List;
import java.util.Set;
import java.util.stream.Stream;

/** The class keeps to LANGUAGE.md, as far as Language can tell; and Language sees each rule broken. */
final class LanguageTest {
  private static final Path FOLDER = Path.of("src/main/java");
  private static final Path SOURCE = FOLDER.resolve("StreamFuse.java");

  private static final String[] SOUND = {
    "public static final int A = 1, B = A * 2 + 1; private static final long C = 5L;",
    "private final int[] a = new int[16]; private int get(int i) { return i < a.length && i >= 0 ? a[i] : 0; }",
    "private static final int N = 4; private final boolean[] a = new boolean[N]; private byte b = (byte) 7;",
    "private int f(int[] a, int n) { int s = 0; for (int i = 0; i < n; i++) { s += i; } return s; }",
    "private int f(int a, int b) { return b == 0 ? 0 : a / b; } private int g(int a) { return a % 8; }",
    "private int a; public StreamFuse(int a) { this.a = f(a); } private static int f(int a) { return a; }",
    "private int f(int a) { switch (a) { case 1: return 2; default: return 3; } }"};

  /** Members that break a rule, behind its number. */
  private static final String[][] BROKEN = {
    {"1", "class Inner {}"}, {"1", "private interface Inner {}"}, {"1", "private enum Inner {}"},
    {"1", "private record Inner(int a) {}"}, {"1", "int visible;"}, {"1", "int visible() { return 1; }"},
    {"1", "protected int visible;"}, {"1", "protected void visible() {}"}, {"1", "public int visible;"},
    {"1", "public int run() { return 1; } private int run(int a) { return a; }"},
    {"2", "private float a;"}, {"2", "private double a() { return 1; }"}, {"2", "private void f(double a) {}"},
    {"2", "private int f() { return (int) 1.5; }"}, {"2", "private int f(int a) { return (int) (a * 2f); }"},
    {"2", "private int f(int a) { return (int) (double) a; }"}, {"2", "private String a;"},
    {"2", "private int f() { String a; return 1; }"}, {"2", "private int[][] a;"}, {"2", "private Object a;"},
    {"2", "private Integer a;"}, {"2", "private int f() { var a = \"b\"; return 1; }"},
    {"3", "private int f(int a) { return Math.abs(a); }"}, {"3", "private int f() { return Integer.MAX_VALUE; }"},
    {"3", "private void f() { System.exit(1); }"}, {"3", "private int f() { return hashCode(); }"},
    {"3", "private int f() { return this.hashCode(); }"}, {"3", "private int f(int[] a) { return a.hashCode(); }"},
    {"3", "private void f(int[] a) { java.util.Arrays.sort(a); }"}, {"3", "@Deprecated private int a;"},
    {"3", "private int f() { return super.hashCode(); }"},
    {"4", "private void f() { g(new int[1]); } private void g(int[] a) {}"},
    {"4", "private final int[] a; public StreamFuse(int n) { a = new int[n]; }"},
    {"4", "private final int[] a = new int[0];"}, {"4", "private final int[] a = {1, 2};"},
    {"4", "private int n; private final int[] a = new int[n];"}, {"4", "private int[] a = new int[2][2][0];"},
    {"4", "private static final int N = 0; private final int[] a = new int[N];"},
    {"4", "private int[] f(int[] a) { return a; }"}, {"4", "private boolean f(int[] a, int[] b) { return a == b; }"},
    {"4", "private boolean f(int[] a) { return a != null; }"}, {"4", "private int[] a = null;"},
    {"4", "private int[] a = new int[1]; private void f(int[] b) { a = b; }"},
    {"4", "private void f(int[] b) { int[] c = b; }"}, {"4", "private void f() { new StreamFuse(); }"},
    {"5", "private static int a = 1;"}, {"5", "private static final int[] a = new int[1];"},
    {"5", "private static final boolean A = true;"}, {"5", "private static final int A; static { A = 1; }"},
    {"5", "private static final int A = f(); private static int f() { return 1; }"}, {"5", "{ }"},
    {"6", "private void f() { throw new RuntimeException(); }"}, {"6", "private void f() throws Exception {}"},
    {"6", "private void f() { try { } finally { } }"}, {"6", "private void f() { synchronized (this) { } }"},
    {"6", "private synchronized void f() {}"}, {"6", "private void f(int a) { assert a > 0; }"},
    {"6", "private boolean f() { return this instanceof StreamFuse; }"},
    {"6", "private void f() { Runnable a = () -> {}; }"}, {"6", "private void f() { Runnable a = this::f; }"},
    {"6", "private int f(int a) { return (Integer) a; }"}, {"6", "private volatile int a;"},
    {"7", "private int f(int a, int b) { return a / b; }"}, {"7", "private int f(int a, int b) { return a % b; }"},
    {"7", "private int f(int a, int b) { return b == 0 ? a / b : 0; }"},
    {"7", "private int f(int a, int b) { return a == 0 ? 0 : a / b; }"},
    {"7", "private int f(int a) { return a / 0; }"}, {"7", "private int f(int a, int b) { a /= b; return a; }"},
    {"8", "private int f(int a) { return a == 0 ? 0 : f(a - 1); }"},
    {"8", "private void f() { g(); } private void g() { h(); } private void h() { f(); }"},
    {"8", "private void f() { while (true) { } }"}, {"8", "private void f() { do { } while (true); }"},
    {"8", "private void f() { for (;;) { } }"}, {"8", "private void f(int n) { for (int i = 0; i < n; i--) { } }"},
    {"8", "private void f(int n) { for (int i = 0; i < n; i++) { i--; } }"},
    {"8", "private void f(int n) { for (int i = 0; i < n; i++) { n = n + 1; } }"},
    {"8", "private void f(int n) { for (int i = 0; i < n; i++) { n += 1; } }"},
    {"8", "private int n; private void f() { for (int i = 0; i < n; i++) { } }"},
    {"8", "private void f(int n) { for (int i = 0; n > i; i++) { } }"},
    {"8", "private void f(int[] a) { for (int v : a) { } }"},
    {"10", "private void f(int a, int b, int c, int d, int e, int g, int h, int i) { }"},
    {"10", "private int f(int a) { return a; } private int g(int a) { return f(f(a)); }"},
    {"10", "private int f(int a) { return a; } private int g(int a) { return f(1 + (a + f(a))); }"},
    {"10", "private void f() {" + "\n".repeat(60) + "}"},
    {"10", "private void a() { b(); } private void b() { c(); } private void c() { d(); } private void d() { e(); } "
        + "private void e() { f(); } private void f() { g(); } private void g() { }"},
    {"10", fields(41)}};

  public static void main(String[] args) throws Exception {
    try (Stream<Path> files = Files.list(FOLDER)) {
      Check.same("files of the program", files.toList(), List.of(SOURCE));
    }
    Check.same("complaints", Language.complaints(Files.readString(SOURCE)), Set.of());
    seesWholeTexts();
    for (String members : SOUND) {
      Check.same("complaints of " + members, Language.complaints(with(members)), Set.of());
    }
    for (String[] row : BROKEN) {
      complains(row[0], with(row[1]));
    }
    Check.end();
  }

  private static String with(String members) {
    return "public final class StreamFuse { " + members + " }";
  }

  private static String fields(int count) {
    StringBuilder text = new StringBuilder();
    for (int i = 0; i < count; i++) {
      text.append("private int a").append(i).append("; ");
    }
    return text.toString();
  }

  private static void seesWholeTexts() throws Exception {
    Check.same("complaints of an empty class", Language.complaints(with("")), Set.of());
    Check.same("complaints of 40 fields", Language.complaints(with(fields(40))), Set.of());
    complains("1", "package a; " + with(""));
    complains("1", with("") + " class Other {}");
    complains("1", "public class StreamFuse {}");
    complains("1", "final class StreamFuse {}");
    complains("3", "import java.util.List; " + with(""));
    complains("3", "public final class StreamFuse extends Thread {}");
    complains("3", "public final class StreamFuse implements Runnable { public void run() {} }");
  }

  private static void complains(String rule, String text) throws Exception {
    Set<String> complaints = Language.complaints(text);
    boolean found = complaints.stream().anyMatch(complaint -> complaint.startsWith(rule + ": "));
    Check.same("rule " + rule + " is seen broken by " + text + " " + complaints, found, true);
  }
}
