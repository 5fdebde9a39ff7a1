final class Promise08ScanTest {
  public static void main(String[] args) {
    Stages.sources("scan", (f, s, e) -> f.scan(s, 0, e));
    Stages.exprs("scan", (f, s, e) -> f.scan(s, 0, e));
    StreamFuse f = new StreamFuse(16, 8, 8);
    int sum = Check.expr(f, "x y +");
    int digits = Check.expr(f, "x 10 * y +");
    int minus = Check.expr(f, "x y -");
    Check.values("sums", f, f.scan(f.range(1, 4), 100, sum), 101, 103, 106, 110);
    Check.values("X is acc, Y is v", f, f.scan(f.range(1, 3), 9, digits), 91, 912, 9123);
    Check.values("of nothing", f, f.scan(f.range(1, 0), 5, sum));
    Check.values("init MAX", f, f.scan(f.range(1, 1), Integer.MAX_VALUE, sum), Integer.MIN_VALUE);
    Check.values("init MIN", f, f.scan(f.range(1, 2), Integer.MIN_VALUE, minus), Integer.MAX_VALUE,
        Integer.MAX_VALUE - 2);
    Check.values("init -7", f, f.scan(f.range(0, 1), -7, sum), -7);
    Check.due("K_SCAN", f.nodeInfo(1, StreamFuse.F_KIND), StreamFuse.K_SCAN);
    Check.due("init is kept", f.nodeInfo(7, StreamFuse.F_PARAM1), Integer.MAX_VALUE);
    Check.end();
  }
}
