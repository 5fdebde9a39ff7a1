final class Promise17NodeInfoTest {
  public static void main(String[] args) {
    StreamFuse f = new StreamFuse(16, 8, 8);
    everyKind(f);
    everyOtherCase(f);
    java.util.List<Integer> before = Check.seen(f);
    Check.same("state after nodeInfo", Check.seen(f), before);
    Check.end();
  }

  private static void everyKind(StreamFuse f) {
    Check.expr(f, "x");
    Check.expr(f, "x 2 %");
    Check.expr(f, "x y +");
    f.range(-7, 10);
    row(f, 0, 1, -1, -1, -1, -1, -7, 10, 0, 10, 0);
    f.map(0, 2);
    row(f, 0, 1, -1, -1, -1, -1, -7, 10, 1, 10, 0);
    row(f, 1, 2, 0, -1, 2, -1, 0, 0, 0, 10, 0);
    f.filter(1, 1);
    row(f, 2, 3, 1, -1, 1, -1, 0, 0, 0, 5, 0);
    f.scan(2, -40, 2);
    row(f, 3, 4, 2, -1, 2, -1, -40, 0, 0, 5, 0);
    f.range(1, 4);
    f.concatMap(4, 0, 2);
    row(f, 5, 8, 4, -1, 0, 2, 0, 0, 0, 10, 1);
    f.zip(3, 5, 1);
    row(f, 6, 5, 3, 5, 1, -1, 0, 0, 0, 5, 1);
    row(f, 3, 4, 2, -1, 2, -1, -40, 0, 1, 5, 0);
    row(f, 5, 8, 4, -1, 0, 2, 0, 0, 1, 10, 1);
    f.take(6, 3);
    row(f, 7, 6, 6, -1, -1, -1, 3, 0, 0, 3, 1);
    f.drop(7, 99);
    row(f, 8, 7, 7, -1, -1, -1, 99, 0, 0, 0, 1);
    row(f, 7, 6, 6, -1, -1, -1, 3, 0, 1, 3, 1);
    f.range(Integer.MIN_VALUE, 0);
    row(f, 9, 1, -1, -1, -1, -1, Integer.MIN_VALUE, 0, 0, 0, 0);
  }

  private static void everyOtherCase(StreamFuse f) {
    int[] wrong = {Integer.MIN_VALUE, -2, -1, 10, 11, 15, 16, 17, Integer.MAX_VALUE};
    for (int n : wrong) {
      for (int field = 0; field <= 9; field++) {
        Check.due("nodeInfo(" + n + ", " + field + ")", f.nodeInfo(n, field), 0);
      }
    }
    for (int field : wrong) {
      for (int n = 0; n <= 9; n++) {
        Check.due("nodeInfo(" + n + ", " + field + ")", f.nodeInfo(n, field), 0);
      }
    }
  }

  private static void row(StreamFuse f, int n, int... want) {
    for (int field = 0; field < want.length; field++) {
      Check.due("nodeInfo(" + n + ", " + field + ")", f.nodeInfo(n, field), want[field]);
    }
  }
}
