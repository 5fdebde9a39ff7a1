final class Promise09ZipTest {
  public static void main(String[] args) {
    values();
    wrongSources();
    wrongExprs();
    fullOfNodes();
    duringRun();
    Check.end();
  }

  private static int zipOf(StreamFuse f, int lenA, int lenB, int e) {
    int a = f.range(10, lenA);
    int b = f.range(1, lenB);
    return f.zip(a, b, e);
  }

  private static void values() {
    StreamFuse f = new StreamFuse(16, 8, 8);
    int minus = Check.expr(f, "x 10 * y -");
    Check.values("a is X, b is Y", f, zipOf(f, 3, 3, minus), 99, 108, 117);
    Check.values("a is shorter", f, zipOf(f, 1, 5, minus), 99);
    Check.values("b is shorter", f, zipOf(f, 4, 2, minus), 99, 108);
    Check.values("a is empty", f, zipOf(f, 0, 2, minus));
    Check.values("b is empty", f, zipOf(f, 2, 0, minus));
    int[] want = {StreamFuse.K_ZIP, 0, 1, minus, -1, 0, 0, 0, 3, 0};
    for (int field = 0; field < want.length; field++) {
      Check.due("nodeInfo(2, " + field + ")", f.nodeInfo(2, field), want[field]);
    }
    Check.due("a is consumed", f.nodeInfo(0, StreamFuse.F_CONSUMED), 1);
    Check.due("b is consumed", f.nodeInfo(1, StreamFuse.F_CONSUMED), 1);
    Check.due("sealed", f.tok(StreamFuse.OP_X, 0), -1);
  }

  private static void wrongSources() {
    StreamFuse f = new StreamFuse(8, 8, 8);
    int used = f.range(0, 2);
    f.take(used, 1);
    int free = f.range(0, 4);
    int e = Check.expr(f, "x");
    for (int s : new int[] {Integer.MIN_VALUE, -1, 3, 8, 16, 17, Integer.MAX_VALUE, used}) {
      Check.refused("zip, a = " + s, f, () -> f.zip(s, free, e));
      Check.refused("zip, b = " + s, f, () -> f.zip(free, s, e));
      Check.refused("zip, both = " + s, f, () -> f.zip(s, s, e));
    }
    Check.refused("zip with itself", f, () -> f.zip(free, free, e));
    Check.due("nothing was sealed", f.tok(StreamFuse.OP_Y, 0), 2);
    Check.due("tok", f.tok(StreamFuse.OP_ADD, 0), 1);
    Check.due("zip", f.zip(free, 1, e), 3);
    int fresh = f.range(0, 1);
    Check.refused("zip of a consumed a", f, () -> f.zip(free, fresh, e));
    Check.refused("zip of a consumed b", f, () -> f.zip(fresh, 1, e));
    Check.due("zip of a zip", f.zip(fresh, 3, e), 5);
  }

  private static void wrongExprs() {
    StreamFuse f = new StreamFuse(8, 8, 8);
    int a = f.range(0, 2);
    int b = f.range(0, 2);
    f.newExpr();
    f.newExpr();
    f.tok(StreamFuse.OP_X, 0);
    f.tok(StreamFuse.OP_Y, 0);
    for (int e : new int[] {Integer.MIN_VALUE, -1, 0, 1, 2, 8, 16, 17, Integer.MAX_VALUE}) {
      Check.refused("zip with expression " + e, f, () -> f.zip(a, b, e));
    }
    Check.due("tok", f.tok(StreamFuse.OP_MUL, 0), 1);
    Check.values("zip", f, f.zip(a, b, 1), 0, 1);
  }

  private static void fullOfNodes() {
    StreamFuse f = new StreamFuse(4, 4, 8);
    int e = Check.expr(f, "x");
    for (int n = 0; n < 4; n++) {
      f.range(0, 2);
    }
    Check.refused("zip at nodeCap", f, () -> f.zip(0, 1, e));
  }

  private static void duringRun() {
    StreamFuse f = new StreamFuse(8, 4, 8);
    int e = Check.expr(f, "x y *");
    int a = f.range(5, 3);
    int b = f.range(7, 3);
    f.start(a, 0);
    f.run(1);
    f.zip(a, b, e);
    Check.due("the run goes on", f.run(8), 2);
    Check.due("outValue", f.outValue(2), 7);
    Check.due("Q_ROOT", f.query(StreamFuse.Q_ROOT), a);
  }
}
