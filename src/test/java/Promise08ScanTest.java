final class Promise08ScanTest {
  public static void main(String[] args) {
    Stages.common("scan");
    StreamFuse f = new StreamFuse(16, 8, 8);
    int sum = Check.expr(f, "x y +");
    int digits = Check.expr(f, "x 10 * y +");
    int minus = Check.expr(f, "x y -");
    Check.values("sums, without init", f, f.scan(f.range(1, 4), 100, sum), 101, 103, 106, 110);
    Check.info("scan", f, 1, StreamFuse.K_SCAN, 0, -1, sum, -1, 100, 0, 0, 4, 0);
    Check.values("X is acc, Y is v", f, f.scan(f.range(1, 3), 9, digits), 91, 912, 9123);
    Check.values("of nothing, not even init", f, f.scan(f.range(1, 0), 5, sum));
    Check.values("init MAX", f, f.scan(f.range(1, 1), Check.MAX, sum), Check.MIN);
    Check.values("init MIN", f, f.scan(f.range(1, 2), Check.MIN, minus), Check.MAX, Check.MAX - 2);
    Check.values("init -7", f, f.scan(f.range(0, 1), -7, sum), -7);
    anyInit();
    Check.end();
  }

  private static void anyInit() {
    for (int init : new int[] {Check.MIN, Check.MIN + 1, -1, 0, 1, Check.MAX - 1, Check.MAX}) {
      StreamFuse f = new StreamFuse(4, 4, 8);
      int acc = Check.expr(f, "x");
      Check.values("init " + init, f, f.scan(f.range(1, 2), init, acc), init, init);
      Check.due("init is kept", f.nodeInfo(1, StreamFuse.F_PARAM1), init);
    }
  }
}
