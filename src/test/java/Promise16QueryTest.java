final class Promise16QueryTest {
  public static void main(String[] args) {
    StreamFuse f = new StreamFuse(8, 8, 8);
    all("fresh", f, 0, 0, 0, 0, -1, -1, 0, 0);
    f.newExpr();
    f.newExpr();
    f.newExpr();
    all("three expressions", f, 0, 3, 0, 0, -1, -1, 0, 0);
    f.tok(StreamFuse.OP_X, 0);
    Check.expr(f, "x y +");
    all("four tokens", f, 0, 4, 4, 0, -1, -1, 0, 0);
    f.range(1, 6);
    f.map(0, 2);
    all("two nodes", f, 2, 4, 4, 0, -1, -1, 0, 0);
    f.start(0, StreamFuse.MODE_FUSED);
    all("a fused run", f, 2, 4, 4, 1, 0, 0, 0, 0);
    f.start(1, StreamFuse.MODE_PULL);
    all("a pull run", f, 2, 4, 4, 1, 1, 1, 0, 0);
    f.run(4);
    all("four items", f, 2, 4, 4, 1, 1, 1, 4, 0);
    f.run(2);
    all("the last item", f, 2, 4, 4, 1, 1, 1, 6, 0);
    f.run(2);
    all("the end", f, 2, 4, 4, 1, 1, 1, 6, 1);
    f.run(2);
    f.start(9, 0);
    f.start(0, 9);
    all("after the end", f, 2, 4, 4, 1, 1, 1, 6, 1);
    f.start(0, StreamFuse.MODE_FUSED);
    all("replaced", f, 2, 4, 4, 1, 0, 0, 0, 0);
    fullTables();
    Check.end();
  }

  private static void fullTables() {
    StreamFuse f = new StreamFuse(16, 16, 32);
    for (int e = 0; e < 16; e++) {
      Check.expr(f, "x y + x y * + 3");
      f.range(e, 1);
    }
    all("full tables", f, 16, 16, 128, 0, -1, -1, 0, 0);
    f.start(15, StreamFuse.MODE_PULL);
    f.run(32);
    all("full tables and a run", f, 16, 16, 128, 1, 15, 1, 1, 1);
    f.newExpr();
    f.tok(StreamFuse.OP_X, 0);
    f.range(0, 1);
    all("full tables, refused calls", f, 16, 16, 128, 1, 15, 1, 1, 1);
  }

  private static void all(String when, StreamFuse f, int... want) {
    for (int round = 0; round < 2; round++) {
      Check.queries(when, f, want);
      for (int q : new int[] {Check.MIN, Check.MIN + 1, -2, -1, 8, 9, 16, Check.MAX - 1, Check.MAX}) {
        Check.due(when + ", query(" + q + ")", f.query(q), -1);
      }
    }
  }
}
