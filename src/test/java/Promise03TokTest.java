final class Promise03TokTest {
  public static void main(String[] args) {
    refusesWithoutExpression();
    refusesUnknownOps();
    depthGoesUpAndDown();
    refusesBeyondDepth();
    refusesBeyondTokens();
    refusesBeyondPool();
    refusesSealed();
    argMattersForConstAlone();
    Check.end();
  }

  private static void refusesWithoutExpression() {
    StreamFuse f = new StreamFuse(4, 4, 8);
    for (int op = -1; op <= 10; op++) {
      int o = op;
      Check.refused("tok without expression, op " + op, f, () -> f.tok(o, 1));
    }
  }

  private static void refusesUnknownOps() {
    StreamFuse f = new StreamFuse(4, 4, 8);
    f.newExpr();
    f.tok(StreamFuse.OP_X, 0);
    f.tok(StreamFuse.OP_Y, 0);
    for (int op : new int[] {Integer.MIN_VALUE, -2, -1, 10, 11, Integer.MAX_VALUE}) {
      Check.refused("tok(" + op + ")", f, () -> f.tok(op, 1));
    }
    Check.due("the depth is untouched", f.tok(StreamFuse.OP_SUB, 0), 1);
    Check.due("evalExpr", f.evalExpr(0, 9, 4), 5);
  }

  private static void depthGoesUpAndDown() {
    for (int op = StreamFuse.OP_ADD; op <= StreamFuse.OP_EQ; op++) {
      int o = op;
      StreamFuse f = new StreamFuse(4, 4, 8);
      f.newExpr();
      Check.refused("binary " + op + " at depth 0", f, () -> f.tok(o, 0));
      Check.due("x", f.tok(StreamFuse.OP_X, 0), 1);
      Check.refused("binary " + op + " at depth 1", f, () -> f.tok(o, 0));
      Check.due("y", f.tok(StreamFuse.OP_Y, 0), 2);
      Check.due("const", f.tok(StreamFuse.OP_CONST, 3), 3);
      Check.due("binary", f.tok(op, 0), 2);
      Check.due("binary", f.tok(op, 0), 1);
      Check.refused("binary " + op + " at depth 1 again", f, () -> f.tok(o, 0));
      Check.due("Q_TOKENS", f.query(StreamFuse.Q_TOKENS), 5);
    }
  }

  private static void refusesBeyondDepth() {
    StreamFuse f = new StreamFuse(4, 4, 8);
    f.newExpr();
    for (int d = 1; d <= StreamFuse.MAX_DEPTH; d++) {
      Check.due("push", f.tok(d % 3, d), d);
    }
    for (int op = StreamFuse.OP_CONST; op <= StreamFuse.OP_Y; op++) {
      int o = op;
      Check.refused("push " + op + " at MAX_DEPTH", f, () -> f.tok(o, 1));
    }
    Check.due("a binary op still fits", f.tok(StreamFuse.OP_ADD, 0), 7);
    Check.due("and then a push", f.tok(StreamFuse.OP_X, 0), 8);
  }

  private static void fill(StreamFuse f) {
    f.newExpr();
    f.tok(StreamFuse.OP_X, 0);
    for (int i = 0; i < 7; i++) {
      f.tok(StreamFuse.OP_CONST, 1);
      f.tok(StreamFuse.OP_ADD, 0);
    }
  }

  private static void refusesBeyondTokens() {
    StreamFuse f = new StreamFuse(4, 4, 8);
    fill(f);
    Check.due("token 16", f.tok(StreamFuse.OP_CONST, 1), 2);
    Check.refused("binary as token 17", f, () -> f.tok(StreamFuse.OP_ADD, 0));
    Check.refused("push as token 17", f, () -> f.tok(StreamFuse.OP_X, 0));
    Check.due("a new expression has room", f.newExpr(), 1);
    Check.due("tok", f.tok(StreamFuse.OP_X, 0), 1);
    Check.due("Q_TOKENS", f.query(StreamFuse.Q_TOKENS), 17);
  }

  private static void refusesBeyondPool() {
    StreamFuse f = new StreamFuse(4, 16, 8);
    for (int e = 0; e < 8; e++) {
      fill(f);
      Check.due("Q_TOKENS", f.query(StreamFuse.Q_TOKENS), 15 * e + 15);
    }
    f.newExpr();
    for (int i = 0; i < 7; i++) {
      Check.due("push", f.tok(StreamFuse.OP_X, 0), i + 1);
    }
    Check.due("token 128", f.tok(StreamFuse.OP_ADD, 0), 6);
    Check.refused("push as token 129", f, () -> f.tok(StreamFuse.OP_X, 0));
    Check.refused("binary as token 129", f, () -> f.tok(StreamFuse.OP_ADD, 0));
    Check.due("newExpr", f.newExpr(), 9);
    Check.refused("push in a new expression", f, () -> f.tok(StreamFuse.OP_X, 0));
    for (int e = 0; e < 8; e++) {
      Check.due("evalExpr", f.evalExpr(e, 100 * e, 0), 100 * e + 7);
    }
  }

  private static void refusesSealed() {
    StreamFuse f = new StreamFuse(8, 8, 8);
    Check.expr(f, "x");
    int r = f.range(0, 3);
    Check.refused("a stage that is refused", f, () -> f.map(r + 1, 0));
    Check.due("it seals nothing", f.tok(StreamFuse.OP_Y, 0), 2);
    Check.due("tok", f.tok(StreamFuse.OP_SUB, 0), 1);
    Check.due("map", f.map(r, 0), 1);
    for (int op = StreamFuse.OP_CONST; op <= StreamFuse.OP_EQ; op++) {
      int o = op;
      Check.refused("tok(" + op + ") on a sealed one", f, () -> f.tok(o, 0));
    }
    Check.due("newExpr", f.newExpr(), 1);
    Check.due("tok", f.tok(StreamFuse.OP_CONST, 4), 1);
  }

  private static void argMattersForConstAlone() {
    int[] args = {0, 1, -1, 7, Integer.MIN_VALUE, Integer.MAX_VALUE};
    for (int arg : args) {
      StreamFuse f = new StreamFuse(4, 4, 8);
      f.newExpr();
      f.tok(StreamFuse.OP_X, arg);
      f.tok(StreamFuse.OP_Y, arg);
      f.tok(StreamFuse.OP_SUB, arg);
      Check.due("x y - with arg " + arg, f.evalExpr(0, 9, 4), 5);
      f.newExpr();
      f.tok(StreamFuse.OP_CONST, arg);
      Check.due("const " + arg, f.evalExpr(1, 9, 4), arg);
    }
  }
}
