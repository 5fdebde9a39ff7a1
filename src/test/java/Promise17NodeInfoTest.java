import java.util.List;

final class Promise17NodeInfoTest {
  public static void main(String[] args) {
    StreamFuse f = new StreamFuse(16, 8, 8);
    everyKind(f);
    everyOtherCase(f);
    List<Integer> before = Check.seen(f);
    Check.same("state after nodeInfo", Check.seen(f), before);
    fullTable();
    Check.end();
  }

  private static void everyKind(StreamFuse f) {
    Check.expr(f, "x");
    Check.expr(f, "x 2 %");
    Check.expr(f, "x y +");
    f.range(-7, 10);
    Check.info("every kind", f, 0, 1, -1, -1, -1, -1, -7, 10, 0, 10, 0);
    f.map(0, 2);
    Check.info("every kind", f, 0, 1, -1, -1, -1, -1, -7, 10, 1, 10, 0);
    Check.info("every kind", f, 1, 2, 0, -1, 2, -1, 0, 0, 0, 10, 0);
    f.filter(1, 1);
    Check.info("every kind", f, 2, 3, 1, -1, 1, -1, 0, 0, 0, 5, 0);
    f.scan(2, -40, 2);
    Check.info("every kind", f, 3, 4, 2, -1, 2, -1, -40, 0, 0, 5, 0);
    f.range(1, 4);
    f.concatMap(4, 0, 2);
    Check.info("every kind", f, 5, 8, 4, -1, 0, 2, 0, 0, 0, 10, 1);
    f.zip(3, 5, 1);
    Check.info("every kind", f, 6, 5, 3, 5, 1, -1, 0, 0, 0, 5, 1);
    Check.info("every kind", f, 3, 4, 2, -1, 2, -1, -40, 0, 1, 5, 0);
    Check.info("every kind", f, 5, 8, 4, -1, 0, 2, 0, 0, 1, 10, 1);
    f.take(6, 3);
    Check.info("every kind", f, 7, 6, 6, -1, -1, -1, 3, 0, 0, 3, 1);
    f.drop(7, 99);
    Check.info("every kind", f, 8, 7, 7, -1, -1, -1, 99, 0, 0, 0, 1);
    Check.info("every kind", f, 7, 6, 6, -1, -1, -1, 3, 0, 1, 3, 1);
    f.range(Check.MIN, 0);
    Check.info("every kind", f, 9, 1, -1, -1, -1, -1, Check.MIN, 0, 0, 0, 0);
  }

  private static void everyOtherCase(StreamFuse f) {
    int[] wrong = {Check.MIN, Check.MIN + 1, -2, -1, 10, 11, 15, 16, 17, Check.MAX - 1, Check.MAX};
    for (int n : wrong) {
      everyFieldIsZero(f, n);
      for (int field : wrong) {
        Check.due("nodeInfo(" + n + ", " + field + ")", f.nodeInfo(n, field), 0);
      }
    }
    for (int field : wrong) {
      for (int n = 0; n <= 9; n++) {
        Check.due("nodeInfo(" + n + ", " + field + ")", f.nodeInfo(n, field), 0);
      }
    }
  }

  private static void fullTable() {
    StreamFuse f = new StreamFuse(16, 4, 8);
    for (int n = 0; n < 16; n++) {
      everyFieldIsZero(f, n);
      f.range(Check.MAX - n, 16);
      Check.info("node " + n, f, n, 1, -1, -1, -1, -1, Check.MAX - n, 16, 0, 16, 0);
    }
    everyFieldIsZero(f, 16);
    everyFieldIsZero(f, -1);
  }

  private static void everyFieldIsZero(StreamFuse f, int n) {
    for (int field = -1; field <= 10; field++) {
      Check.due("nodeInfo(" + n + ", " + field + ")", f.nodeInfo(n, field), 0);
    }
  }
}
