import java.util.List;

final class Promise09ZipTest {
  public static void main(String[] args) {
    Stages.common("zip, as a");
    Stages.common("zip, as b");
    values();
    everyPairOfLengths();
    sameSourceTwice();
    oneGoodSource();
    duringRun();
    Check.end();
  }

  private static int zipOf(StreamFuse f, int lenA, int lenB, int e) {
    int a = f.range(10, lenA);
    int b = f.range(1, lenB);
    return f.zip(a, b, e);
  }

  private static void values() {
    StreamFuse f = new StreamFuse(16, 8, 8);
    int minus = Check.expr(f, "x 10 * y -");
    Check.values("a is X, b is Y", f, zipOf(f, 3, 3, minus), 99, 108, 117);
    Check.values("a is shorter", f, zipOf(f, 1, 5, minus), 99);
    Check.values("b is shorter", f, zipOf(f, 4, 2, minus), 99, 108);
    Check.values("a is empty", f, zipOf(f, 0, 2, minus));
    Check.values("b is empty", f, zipOf(f, 2, 0, minus));
    Check.info("zip", f, 2, StreamFuse.K_ZIP, 0, 1, minus, -1, 0, 0, 0, 3, 0);
    Check.due("a is consumed", f.nodeInfo(0, StreamFuse.F_CONSUMED), 1);
    Check.due("b is consumed", f.nodeInfo(1, StreamFuse.F_CONSUMED), 1);
    Check.due("sealed", f.tok(StreamFuse.OP_X, 0), -1);
  }

  private static void everyPairOfLengths() {
    for (int lenA = 0; lenA <= 16; lenA++) {
      for (int lenB = 0; lenB <= 16; lenB++) {
        StreamFuse f = new StreamFuse(4, 4, 8);
        int e = Check.expr(f, "x 100 * y +");
        int node = zipOf(f, lenA, lenB, e);
        int count = Math.min(lenA, lenB);
        Check.due("length of " + lenA + " and " + lenB, f.nodeInfo(node, StreamFuse.F_LENGTH), count);
        List<Integer> list = Check.list(f, node, StreamFuse.MODE_FUSED);
        for (int i = 0; i < count; i++) {
          Check.due("item " + i, list.get(i), 100 * (10 + i) + 1 + i);
        }
      }
    }
  }

  private static void sameSourceTwice() {
    StreamFuse f = new StreamFuse(8, 8, 8);
    f.range(0, 4);
    f.range(0, 0);
    f.take(0, 1);
    int e = Check.expr(f, "x");
    for (int s : new int[] {Check.MIN, -1, 0, 1, 2, 3, 16, Check.MAX}) {
      Check.refused("zip of " + s + " with itself", f, () -> f.zip(s, s, e));
    }
    Check.due("nothing was sealed", f.tok(StreamFuse.OP_Y, 0), 2);
    Check.due("tok", f.tok(StreamFuse.OP_ADD, 0), 1);
    Check.due("nothing was consumed", f.zip(1, 2, e), 3);
  }

  /** One good source does not make up for the other, and stays free. */
  private static void oneGoodSource() {
    StreamFuse f = new StreamFuse(8, 8, 8);
    int used = f.range(0, 2);
    int user = f.take(used, 1);
    int free = f.range(0, 4);
    int e = Check.expr(f, "x");
    for (int s : new int[] {Check.MIN, -1, 3, 8, 16, 17, Check.MAX, used}) {
      Check.refused("zip, a = " + s, f, () -> f.zip(s, free, e));
      Check.refused("zip, b = " + s, f, () -> f.zip(free, s, e));
    }
    Check.due("zip", f.zip(free, user, e), 3);
    int fresh = f.range(0, 1);
    Check.refused("zip of a consumed a", f, () -> f.zip(free, fresh, e));
    Check.refused("zip of a consumed b", f, () -> f.zip(fresh, user, e));
    Check.due("zip of a zip", f.zip(fresh, 3, e), 5);
  }

  private static void duringRun() {
    StreamFuse f = new StreamFuse(8, 4, 8);
    int e = Check.expr(f, "x y *");
    int a = f.range(5, 3);
    int b = f.range(7, 3);
    f.start(a, 0);
    f.run(1);
    f.zip(a, b, e);
    Check.due("the run goes on", f.run(8), 2);
    Check.due("outValue", f.outValue(2), 7);
    Check.due("Q_ROOT", f.query(StreamFuse.Q_ROOT), a);
  }
}
