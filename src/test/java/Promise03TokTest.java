final class Promise03TokTest {
  public static void main(String[] args) {
    refusesWithoutExpression();
    refusesUnknownOps();
    depthGoesUpAndDown();
    refusesBeyondDepth();
    refusesBeyondTokens();
    refusesBeyondPool();
    refusesBehindEightFullOnes();
    refusesSealed();
    argMattersForConstAlone();
    nothingElseChanges();
    Check.end();
  }

  private static void refusesWithoutExpression() {
    StreamFuse f = new StreamFuse(4, 4, 8);
    f.range(0, 3);
    for (int op = -1; op <= 10; op++) {
      int o = op;
      Check.refused("tok without expression, op " + op, f, () -> f.tok(o, 1));
    }
    Check.due("the first expression", f.newExpr(), 0);
    Check.due("is empty", f.tok(StreamFuse.OP_X, 0), 1);
  }

  private static void refusesUnknownOps() {
    StreamFuse f = new StreamFuse(4, 4, 8);
    f.newExpr();
    f.tok(StreamFuse.OP_X, 0);
    f.tok(StreamFuse.OP_Y, 0);
    for (int op : new int[] {Check.MIN, -2, -1, 10, 11, 16, 128, Check.MAX}) {
      Check.refused("tok(" + op + ")", f, () -> f.tok(op, 1));
    }
    Check.due("the depth is untouched", f.tok(StreamFuse.OP_SUB, 0), 1);
    Check.due("evalExpr", f.evalExpr(0, 9, 4), 5);
  }

  private static void depthGoesUpAndDown() {
    for (int op = StreamFuse.OP_ADD; op <= StreamFuse.OP_EQ; op++) {
      int o = op;
      StreamFuse f = new StreamFuse(4, 4, 8);
      f.newExpr();
      Check.refused("binary " + op + " at depth 0", f, () -> f.tok(o, 0));
      Check.due("x", f.tok(StreamFuse.OP_X, 0), 1);
      Check.refused("binary " + op + " at depth 1", f, () -> f.tok(o, 0));
      Check.due("y", f.tok(StreamFuse.OP_Y, 0), 2);
      Check.due("const", f.tok(StreamFuse.OP_CONST, 3), 3);
      Check.due("binary", f.tok(op, 0), 2);
      Check.due("binary", f.tok(op, 0), 1);
      Check.refused("binary " + op + " at depth 1 again", f, () -> f.tok(o, 0));
      Check.due("Q_TOKENS", f.query(StreamFuse.Q_TOKENS), 5);
    }
  }

  private static void refusesBeyondDepth() {
    StreamFuse f = new StreamFuse(4, 4, 8);
    f.newExpr();
    for (int d = 1; d <= StreamFuse.MAX_DEPTH; d++) {
      Check.due("push", f.tok(d % 3, d), d);
    }
    for (int op = StreamFuse.OP_CONST; op <= StreamFuse.OP_Y; op++) {
      int o = op;
      Check.refused("push " + op + " at MAX_DEPTH", f, () -> f.tok(o, 1));
    }
    Check.due("a binary op still fits", f.tok(StreamFuse.OP_ADD, 0), 7);
    Check.due("and then a push", f.tok(StreamFuse.OP_X, 0), 8);
  }

  /** Each of the first 16 tokens fits, none more does: in the middle of the pool as at its start. */
  private static void refusesBeyondTokens() {
    StreamFuse f = new StreamFuse(4, 4, 8);
    for (int e = 0; e < 3; e++) {
      Check.due("newExpr", f.newExpr(), e);
      Check.due("token 1", f.tok(StreamFuse.OP_X, 0), 1);
      for (int t = 2; t <= 16; t++) {
        Check.due("token " + t, f.tok(t % 2 == 0 ? StreamFuse.OP_CONST : StreamFuse.OP_ADD, 1), t % 2 == 0 ? 2 : 1);
        Check.due("Q_TOKENS", f.query(StreamFuse.Q_TOKENS), 16 * e + t);
      }
      Check.refused("binary as token 17", f, () -> f.tok(StreamFuse.OP_ADD, 0));
      Check.refused("push as token 17", f, () -> f.tok(StreamFuse.OP_X, 0));
    }
  }

  private static void fill(StreamFuse f, int tokens) {
    f.newExpr();
    f.tok(StreamFuse.OP_X, 0);
    for (int t = 2; t <= tokens; t++) {
      f.tok(t % 2 == 0 ? StreamFuse.OP_CONST : StreamFuse.OP_ADD, 1);
    }
  }

  private static void refusesBeyondPool() {
    StreamFuse f = new StreamFuse(4, 16, 8);
    for (int e = 0; e < 8; e++) {
      fill(f, 15);
      Check.due("Q_TOKENS", f.query(StreamFuse.Q_TOKENS), 15 * e + 15);
    }
    f.newExpr();
    for (int i = 0; i < 7; i++) {
      Check.due("push", f.tok(StreamFuse.OP_X, 0), i + 1);
    }
    Check.due("token 128", f.tok(StreamFuse.OP_ADD, 0), 6);
    Check.refused("push as token 129", f, () -> f.tok(StreamFuse.OP_X, 0));
    Check.refused("binary as token 129", f, () -> f.tok(StreamFuse.OP_ADD, 0));
    Check.due("newExpr", f.newExpr(), 9);
    Check.refused("push in a new expression", f, () -> f.tok(StreamFuse.OP_X, 0));
    for (int e = 0; e < 8; e++) {
      Check.due("evalExpr", f.evalExpr(e, 100 * e, 0), 100 * e + 7);
    }
  }

  /** Token 128 is also token 16 of its expression: both bounds are reached at once. */
  private static void refusesBehindEightFullOnes() {
    StreamFuse f = new StreamFuse(4, 16, 8);
    for (int e = 0; e < 8; e++) {
      fill(f, 16);
    }
    Check.due("Q_TOKENS", f.query(StreamFuse.Q_TOKENS), 128);
    Check.refused("binary as token 129", f, () -> f.tok(StreamFuse.OP_ADD, 0));
    Check.due("newExpr", f.newExpr(), 8);
    for (int op = StreamFuse.OP_CONST; op <= StreamFuse.OP_EQ; op++) {
      int o = op;
      Check.refused("tok(" + op + ") as token 129", f, () -> f.tok(o, 0));
    }
  }

  private static void refusesSealed() {
    StreamFuse f = new StreamFuse(8, 8, 8);
    Check.expr(f, "x");
    int r = f.range(0, 3);
    Check.refused("a stage that is refused", f, () -> f.map(r + 1, 0));
    Check.due("it seals nothing", f.tok(StreamFuse.OP_Y, 0), 2);
    Check.due("tok", f.tok(StreamFuse.OP_SUB, 0), 1);
    Check.due("map", f.map(r, 0), 1);
    for (int op = StreamFuse.OP_CONST; op <= StreamFuse.OP_EQ; op++) {
      int o = op;
      Check.refused("tok(" + op + ") on a sealed one", f, () -> f.tok(o, 0));
    }
    Check.due("newExpr", f.newExpr(), 1);
    Check.due("tok", f.tok(StreamFuse.OP_CONST, 4), 1);
  }

  private static void argMattersForConstAlone() {
    int[] args = {0, 1, -1, 7, Check.MIN, Check.MAX};
    for (int arg : args) {
      StreamFuse f = new StreamFuse(4, 4, 8);
      f.newExpr();
      f.tok(StreamFuse.OP_X, arg);
      f.tok(StreamFuse.OP_Y, arg);
      f.tok(StreamFuse.OP_SUB, arg);
      Check.due("x y - with arg " + arg, f.evalExpr(0, 9, 4), 5);
      f.newExpr();
      f.tok(StreamFuse.OP_CONST, arg);
      Check.due("const " + arg, f.evalExpr(1, 9, 4), arg);
    }
  }

  private static void nothingElseChanges() {
    StreamFuse f = new StreamFuse(4, 4, 8);
    int e = Check.expr(f, "x 5 *");
    f.start(f.map(f.range(1, 4), e), StreamFuse.MODE_PULL);
    f.run(2);
    f.newExpr();
    for (int d = 1; d <= 8; d++) {
      Check.due("push", f.tok(StreamFuse.OP_Y, 0), d);
      Check.queries("behind tok", f, 2, 2, 3 + d, 1, 1, 1, 2, 0);
      Check.due("another expression", f.evalExpr(e, 6, 1), 30);
      Check.due("a node", f.nodeInfo(1, StreamFuse.F_LENGTH), 4);
      Check.due("a kept item", f.outValue(1), 10);
    }
    Check.step(f, 8, 2, 4, 1);
    Check.due("the run's last item", f.outValue(3), 20);
  }
}
