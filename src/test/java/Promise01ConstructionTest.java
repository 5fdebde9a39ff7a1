final class Promise01ConstructionTest {
  public static void main(String[] args) {
    int[] given = {Integer.MIN_VALUE, -1, 0, 3, 4, 5, 8, 9, 15, 16, 17, 31, 32, 33, Integer.MAX_VALUE};
    for (int cap : given) {
      int small = Math.max(4, Math.min(16, cap));
      int out = Math.max(8, Math.min(32, cap));
      // The other two arguments pull the opposite way, so that none can stand in for another.
      int other = cap < 10 ? Integer.MAX_VALUE : Integer.MIN_VALUE;
      Check.due("nodeCap " + cap, nodesThatFit(new StreamFuse(cap, other, other)), small);
      Check.due("exprCap " + cap, exprsThatFit(new StreamFuse(other, cap, other)), small);
      Check.due("outCap " + cap, itemsAtOnce(new StreamFuse(other, other, cap)), out);
      Check.due("outCap window " + cap, itemsKept(new StreamFuse(other, other, cap)), out);
    }
    fresh(new StreamFuse(8, 8, 8));
    fresh(new StreamFuse(Integer.MIN_VALUE, Integer.MIN_VALUE, Integer.MIN_VALUE));
    fresh(new StreamFuse(Integer.MAX_VALUE, Integer.MAX_VALUE, Integer.MAX_VALUE));
    twoObjects();
    Check.end();
  }

  private static int nodesThatFit(StreamFuse f) {
    int made = 0;
    while (made < 100 && f.range(0, 1) == made) {
      made++;
    }
    Check.due("nodes", f.query(StreamFuse.Q_NODES), made);
    return made;
  }

  private static int exprsThatFit(StreamFuse f) {
    int made = 0;
    while (made < 100 && f.newExpr() == made) {
      made++;
    }
    Check.due("exprs", f.query(StreamFuse.Q_EXPRS), made);
    return made;
  }

  private static void startFullList(StreamFuse f) {
    int eight = Check.expr(f, "8");
    int value = Check.expr(f, "x 8 * y + 1 +");
    int source = f.range(0, 16);
    int node = f.concatMap(source, eight, value);
    Check.due("start", f.start(node, StreamFuse.MODE_FUSED), 2);
  }

  private static int itemsAtOnce(StreamFuse f) {
    startFullList(f);
    return f.run(Integer.MAX_VALUE);
  }

  private static int itemsKept(StreamFuse f) {
    startFullList(f);
    for (int i = 0; i < 100; i++) {
      f.run(1);
    }
    int kept = 0;
    for (int i = 0; i < 100; i++) {
      kept += f.outValue(i) != 0 ? 1 : 0;
    }
    return kept;
  }

  private static void fresh(StreamFuse f) {
    int[] want = {0, 0, 0, 0, -1, -1, 0, 0};
    for (int q = 0; q < want.length; q++) {
      Check.due("fresh query(" + q + ")", f.query(q), want[q]);
    }
    Check.due("fresh evalExpr", f.evalExpr(0, 1, 1), 0);
    Check.due("fresh nodeInfo", f.nodeInfo(0, StreamFuse.F_SRC_A), 0);
    Check.due("fresh outValue", f.outValue(0), 0);
    Check.refused("fresh run", f, () -> f.run(1));
    Check.refused("fresh start", f, () -> f.start(0, 0));
    Check.refused("fresh tok", f, () -> f.tok(0, 1));
    Check.refused("fresh take", f, () -> f.take(0, 1));
  }

  private static void twoObjects() {
    StreamFuse one = new StreamFuse(4, 4, 8);
    StreamFuse two = new StreamFuse(4, 4, 8);
    Check.expr(one, "x");
    one.start(one.range(0, 3), 1);
    one.run(2);
    fresh(two);
  }
}
