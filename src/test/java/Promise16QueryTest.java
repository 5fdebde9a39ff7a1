final class Promise16QueryTest {
  public static void main(String[] args) {
    StreamFuse f = new StreamFuse(8, 8, 8);
    all("fresh", f, 0, 0, 0, 0, -1, -1, 0, 0);
    f.newExpr();
    f.newExpr();
    f.newExpr();
    all("three expressions", f, 0, 3, 0, 0, -1, -1, 0, 0);
    f.tok(StreamFuse.OP_X, 0);
    Check.expr(f, "x y +");
    all("four tokens", f, 0, 4, 4, 0, -1, -1, 0, 0);
    f.range(1, 6);
    f.map(0, 2);
    all("two nodes", f, 2, 4, 4, 0, -1, -1, 0, 0);
    f.start(0, StreamFuse.MODE_FUSED);
    all("a fused run", f, 2, 4, 4, 1, 0, 0, 0, 0);
    f.start(1, StreamFuse.MODE_PULL);
    all("a pull run", f, 2, 4, 4, 1, 1, 1, 0, 0);
    f.run(4);
    all("four items", f, 2, 4, 4, 1, 1, 1, 4, 0);
    f.run(2);
    all("the last item", f, 2, 4, 4, 1, 1, 1, 6, 0);
    f.run(2);
    all("the end", f, 2, 4, 4, 1, 1, 1, 6, 1);
    f.run(2);
    f.start(9, 0);
    f.start(0, 9);
    all("after the end", f, 2, 4, 4, 1, 1, 1, 6, 1);
    f.start(0, StreamFuse.MODE_FUSED);
    all("replaced", f, 2, 4, 4, 1, 0, 0, 0, 0);
    Check.end();
  }

  private static void all(String when, StreamFuse f, int... want) {
    for (int round = 0; round < 2; round++) {
      for (int q = 0; q < want.length; q++) {
        Check.due(when + ", query(" + q + ")", f.query(q), want[q]);
      }
      for (int q : new int[] {Integer.MIN_VALUE, -2, -1, 8, 9, Integer.MAX_VALUE}) {
        Check.due(when + ", query(" + q + ")", f.query(q), -1);
      }
    }
  }
}
