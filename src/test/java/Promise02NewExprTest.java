final class Promise02NewExprTest {
  public static void main(String[] args) {
    idsAndCap();
    latestAloneReceives();
    earlierOnesKeepTheirState();
    nothingElseChanges();
    Check.end();
  }

  private static void idsAndCap() {
    StreamFuse f = new StreamFuse(4, 5, 8);
    for (int e = 0; e < 5; e++) {
      Check.due("newExpr", f.newExpr(), e);
      Check.due("Q_EXPRS", f.query(StreamFuse.Q_EXPRS), e + 1);
      Check.due("an empty expression", f.evalExpr(e, 9, 9), 0);
    }
    Check.due("tok", f.tok(StreamFuse.OP_X, 0), 1);
    Check.refused("newExpr at the cap", f, f::newExpr);
    Check.due("the latest one stays open", f.tok(StreamFuse.OP_Y, 0), 2);
  }

  private static void latestAloneReceives() {
    StreamFuse f = new StreamFuse(4, 4, 8);
    Check.expr(f, "x 5 *");
    Check.due("newExpr", f.newExpr(), 1);
    Check.due("it begins at depth 0", f.tok(StreamFuse.OP_ADD, 0), -1);
    Check.due("tok", f.tok(StreamFuse.OP_CONST, 70), 1);
    Check.due("the earlier one", f.evalExpr(0, 3, 0), 15);
    Check.due("the latest one", f.evalExpr(1, 3, 0), 70);
  }

  private static void earlierOnesKeepTheirState() {
    StreamFuse f = new StreamFuse(8, 8, 8);
    Check.due("newExpr", f.newExpr(), 0);
    f.tok(StreamFuse.OP_X, 0);
    f.tok(StreamFuse.OP_X, 0);
    Check.expr(f, "x");
    int r = f.range(0, 2);
    Check.due("the unfinished one stays unusable", f.map(r, 0), -1);
    Check.due("map seals the latest one", f.map(r, 1), 1);
    Check.due("sealed", f.tok(StreamFuse.OP_X, 0), -1);
    Check.due("a new one is not sealed", f.newExpr(), 2);
    Check.due("tok", f.tok(StreamFuse.OP_Y, 0), 1);
    Check.due("the sealed one is unchanged", f.evalExpr(1, 6, 4), 6);
    Check.due("the new one", f.evalExpr(2, 6, 4), 4);
    Check.due("the unfinished one", f.evalExpr(0, 6, 4), 0);
  }

  private static void nothingElseChanges() {
    StreamFuse f = new StreamFuse(4, 4, 8);
    Check.expr(f, "x y +");
    f.start(f.map(f.range(1, 4), 0), StreamFuse.MODE_PULL);
    f.run(2);
    Check.due("newExpr", f.newExpr(), 1);
    int[] want = {2, 2, 3, 1, 1, 1, 2, 0};
    for (int q = 0; q < want.length; q++) {
      Check.due("query(" + q + ")", f.query(q), want[q]);
    }
    Check.due("outValue(1)", f.outValue(1), 2);
    Check.due("run", f.run(8), 2);
  }
}
