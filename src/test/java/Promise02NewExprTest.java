final class Promise02NewExprTest {
  public static void main(String[] args) {
    for (int cap = 4; cap <= 16; cap++) {
      refusedAtTheCap(cap);
    }
    startsEmptyBehindAFullOne();
    startsOpenBehindASealedOne();
    opensOneWithTheTokensUsedUp();
    latestAloneReceives();
    earlierOnesKeepTheirState();
    nothingElseChanges();
    Check.end();
  }

  private static void refusedAtTheCap(int cap) {
    StreamFuse f = new StreamFuse(4, cap, 8);
    for (int e = 0; e < cap; e++) {
      Check.due("newExpr of " + cap, f.newExpr(), e);
      Check.due("Q_EXPRS", f.query(StreamFuse.Q_EXPRS), e + 1);
      Check.due("an empty expression", f.evalExpr(e, 9, 9), 0);
    }
    Check.due("tok", f.tok(StreamFuse.OP_X, 0), 1);
    Check.refused("newExpr beyond " + cap, f, f::newExpr);
    Check.refused("newExpr beyond " + cap + " again", f, f::newExpr);
    Check.due("the latest one stays open", f.tok(StreamFuse.OP_Y, 0), 2);
    Check.due("tok", f.tok(StreamFuse.OP_SUB, 0), 1);
    Check.due("the latest one", f.evalExpr(cap - 1, 9, 4), 5);
  }

  private static void startsEmptyBehindAFullOne() {
    StreamFuse f = new StreamFuse(4, 4, 8);
    for (int e = 0; e < 2; e++) {
      Check.due("newExpr", f.newExpr(), e);
      Check.due("Q_TOKENS", f.query(StreamFuse.Q_TOKENS), 16 * e);
      Check.due("0 tokens", f.evalExpr(e, 7, 7), 0);
      Check.due("depth 0", f.tok(StreamFuse.OP_ADD, 0), -1);
      for (int t = 1; t <= 16; t++) {
        // All eight places of the stack first, so that an old depth left over would show.
        int due = t <= 8 ? t : t % 2 == 0 ? 8 : 7;
        Check.due("token " + t, f.tok(due == 7 && t > 8 ? StreamFuse.OP_ADD : StreamFuse.OP_X, 0), due);
      }
      Check.due("token 17", f.tok(StreamFuse.OP_ADD, 0), -1);
    }
  }

  private static void startsOpenBehindASealedOne() {
    StreamFuse f = new StreamFuse(4, 4, 8);
    f.map(f.range(0, 2), Check.expr(f, "x"));
    Check.due("the sealed one", f.tok(StreamFuse.OP_X, 0), -1);
    Check.due("newExpr", f.newExpr(), 1);
    Check.due("not sealed", f.tok(StreamFuse.OP_Y, 0), 1);
  }

  private static void opensOneWithTheTokensUsedUp() {
    StreamFuse f = new StreamFuse(4, 16, 8);
    for (int e = 0; e < 16; e++) {
      Check.due("newExpr", f.newExpr(), e);
      for (int t = 0; t < 8; t++) {
        f.tok(StreamFuse.OP_X, 0);
        f.tok(StreamFuse.OP_X, 0);
        f.tok(StreamFuse.OP_ADD, 0);
      }
    }
    Check.due("Q_TOKENS", f.query(StreamFuse.Q_TOKENS), 128);
    Check.refused("newExpr with all tables full", f, f::newExpr);
  }

  private static void latestAloneReceives() {
    StreamFuse f = new StreamFuse(4, 4, 8);
    Check.expr(f, "x 5 *");
    Check.due("newExpr", f.newExpr(), 1);
    Check.due("it begins at depth 0", f.tok(StreamFuse.OP_ADD, 0), -1);
    Check.due("tok", f.tok(StreamFuse.OP_CONST, 70), 1);
    Check.due("the earlier one", f.evalExpr(0, 3, 0), 15);
    Check.due("the latest one", f.evalExpr(1, 3, 0), 70);
  }

  private static void earlierOnesKeepTheirState() {
    StreamFuse f = new StreamFuse(8, 8, 8);
    Check.due("newExpr", f.newExpr(), 0);
    f.tok(StreamFuse.OP_X, 0);
    f.tok(StreamFuse.OP_X, 0);
    Check.expr(f, "x");
    int r = f.range(0, 2);
    Check.due("the unfinished one stays unusable", f.map(r, 0), -1);
    Check.due("map seals the latest one", f.map(r, 1), 1);
    Check.due("newExpr", f.newExpr(), 2);
    Check.due("tok", f.tok(StreamFuse.OP_Y, 0), 1);
    Check.due("the sealed one is unchanged", f.evalExpr(1, 6, 4), 6);
    Check.due("the new one", f.evalExpr(2, 6, 4), 4);
    Check.due("the unfinished one", f.evalExpr(0, 6, 4), 0);
  }

  private static void nothingElseChanges() {
    StreamFuse f = new StreamFuse(4, 4, 8);
    Check.expr(f, "x y +");
    f.start(f.map(f.range(1, 4), 0), StreamFuse.MODE_PULL);
    f.run(2);
    Check.due("newExpr", f.newExpr(), 1);
    Check.queries("behind newExpr", f, 2, 2, 3, 1, 1, 1, 2, 0);
    Check.due("outValue(1)", f.outValue(1), 2);
    Check.step(f, 8, 2, 4, 1);
    Check.due("newExpr after the end", f.newExpr(), 2);
    Check.queries("behind newExpr", f, 2, 3, 3, 1, 1, 1, 4, 1);
  }
}
