import java.util.List;

final class Promise04EvalExprTest {
  private static final int MIN = Check.MIN;
  private static final int MAX = Check.MAX;

  public static void main(String[] args) {
    arithmetic();
    againstWideArithmetic();
    longerExpressions();
    wrapsStepByStep();
    noSuchExpression();
    depthOtherThanOne();
    fullTables();
    sealedAndUnsealed();
    Check.end();
  }

  private static StreamFuse withAllOps() {
    StreamFuse f = new StreamFuse(4, 16, 8);
    for (String op : "+ - * / % < =".split(" ")) {
      Check.expr(f, "x y " + op);
    }
    return f;
  }

  private static void arithmetic() {
    StreamFuse f = withAllOps();
    int[][] rows = {
      {0, MAX, 1, MIN}, {0, MIN, -1, MAX}, {0, 2, 3, 5},
      {1, MIN, 1, MAX}, {1, 2, 3, -1}, {1, 0, MIN, MIN},
      {2, 65536, 65536, 0}, {2, MAX, 2, -2}, {2, MIN, -1, MIN}, {2, -3, 5, -15},
      {3, 7, 0, 0}, {3, MIN, 0, 0}, {3, -7, 2, -3}, {3, 7, -2, -3}, {3, -7, -2, 3}, {3, MIN, -1, MIN},
      {3, 0, 5, 0}, {3, MIN, MAX, -1}, {3, -1, 2, 0},
      {4, 7, 0, 0}, {4, MIN, 0, 0}, {4, -7, 2, -1}, {4, 7, -2, 1}, {4, -7, -2, -1}, {4, MIN, -1, 0},
      {4, MIN, MAX, -1}, {4, 5, MIN, 5},
      {5, MIN, MAX, 1}, {5, MAX, MIN, 0}, {5, 3, 3, 0}, {5, -1, 0, 1},
      {6, MIN, MIN, 1}, {6, MIN, MAX, 0}, {6, 0, 0, 1}};
    for (int[] row : rows) {
      Check.due("op " + (row[0] + 3) + " of " + row[1] + " and " + row[2], f.evalExpr(row[0], row[1], row[2]), row[3]);
    }
  }

  private static void againstWideArithmetic() {
    StreamFuse f = withAllOps();
    int[] edges = {MIN, MIN + 1, -65537, -46341, -3, -2, -1, 0, 1, 2, 3, 46341, 65536, MAX - 1, MAX};
    for (int a : edges) {
      for (int b : edges) {
        long q = b == 0 ? 0 : (long) a / b;
        long m = b == 0 ? 0 : a - q * b;
        long[] want = {(long) a + b, (long) a - b, (long) a * b, q, m, a < b ? 1 : 0, a == b ? 1 : 0};
        for (int e = 0; e < want.length; e++) {
          Check.due("op " + (e + 3) + " of " + a + " and " + b, f.evalExpr(e, a, b), (int) want[e]);
        }
      }
    }
  }

  private static void longerExpressions() {
    StreamFuse f = new StreamFuse(4, 16, 8);
    int poly = Check.expr(f, "x x * y 3 * - 10 +");
    int deep = Check.expr(f, "x y x y x y x y - - - - - - -");
    int constant = Check.expr(f, "-12");
    int y = Check.expr(f, "y");
    Check.due("polynomial", f.evalExpr(poly, 5, 4), 23);
    Check.due("eight deep", f.evalExpr(deep, 10, 3), 28);
    Check.due("constant", f.evalExpr(constant, 1, 1), -12);
    Check.due("y", f.evalExpr(y, 1, 77), 77);
    Check.due("the same again", f.evalExpr(poly, 5, 4), 23);
  }

  /** Each operator's result is cut to 32 bits before the next one sees it. */
  private static void wrapsStepByStep() {
    StreamFuse f = new StreamFuse(4, 16, 8);
    Check.due("(MAX + 1) / 2", f.evalExpr(Check.expr(f, "x 1 + 2 /"), MAX, 0), -1073741824);
    Check.due("(MIN - 1) / 2", f.evalExpr(Check.expr(f, "x 1 - 2 /"), MIN, 0), 1073741823);
    Check.due("(65536 * 65536) = 0", f.evalExpr(Check.expr(f, "x x * 0 ="), 65536, 0), 1);
    Check.due("(MIN / -1) < 0", f.evalExpr(Check.expr(f, "x y / 0 <"), MIN, -1), 1);
    Check.due("MIN - (MIN / -1) * -1", f.evalExpr(Check.expr(f, "x x y / y * -"), MIN, -1), 0);
    Check.due("5 / (x - x) + 3", f.evalExpr(Check.expr(f, "5 x x - / 3 +"), 4, 0), 3);
    Check.due("5 % (x - x) + 3", f.evalExpr(Check.expr(f, "5 x x - % 3 +"), 4, 0), 3);
    Check.due("a constant MIN", f.evalExpr(Check.expr(f, "-2147483648"), 1, 1), MIN);
    Check.due("a constant MAX", f.evalExpr(Check.expr(f, "2147483647"), 1, 1), MAX);
  }

  private static void noSuchExpression() {
    StreamFuse f = new StreamFuse(4, 16, 8);
    Check.due("none made", f.evalExpr(0, 5, 5), 0);
    Check.expr(f, "7");
    for (int e : new int[] {MIN, MIN + 1, -16, -2, -1, 1, 2, 15, 16, 17, 128, 1000, MAX - 1, MAX}) {
      Check.due("evalExpr(" + e + ")", f.evalExpr(e, 5, 5), 0);
    }
    Check.due("evalExpr(0)", f.evalExpr(0, 5, 5), 7);
  }

  /** An expression on its way through every depth has a value at depth 1 alone, latest or not. */
  private static void depthOtherThanOne() {
    StreamFuse f = new StreamFuse(4, 16, 8);
    f.newExpr();
    Check.due("zero tokens", f.evalExpr(0, 5, 5), 0);
    for (int depth = 1; depth <= 8; depth++) {
      Check.due("push", f.tok(StreamFuse.OP_CONST, 7), depth);
      Check.due("up at depth " + depth, f.evalExpr(0, 5, 5), depth == 1 ? 7 : 0);
    }
    for (int depth = 7; depth >= 1; depth--) {
      Check.due("binary", f.tok(StreamFuse.OP_ADD, 0), depth);
      Check.due("down at depth " + depth, f.evalExpr(0, 5, 5), depth == 1 ? 56 : 0);
    }
    f.tok(StreamFuse.OP_X, 0);
    f.newExpr();
    f.newExpr();
    Check.due("an earlier one at depth 2", f.evalExpr(0, 5, 5), 0);
    Check.due("an earlier one of zero tokens", f.evalExpr(1, 5, 5), 0);
    Check.due("the latest one of zero tokens", f.evalExpr(2, 5, 5), 0);
  }

  /** All 16 expressions made, and the last of the pool's 128 tokens ends a well-formed one. */
  private static void fullTables() {
    StreamFuse f = new StreamFuse(4, 16, 8);
    for (int e = 0; e < 8; e++) {
      Check.expr(f, "x 1 + 1 + 1 + 1 + 1 + 1 + 1 +");
    }
    Check.expr(f, "x y + 2 + 3 +");
    Check.expr(f, "y");
    Check.due("Q_TOKENS", f.query(StreamFuse.Q_TOKENS), 128);
    Check.due("the last token", f.evalExpr(9, 1, 2), 2);
    Check.due("the one before", f.evalExpr(8, 1, 2), 8);
    Check.due("the first one", f.evalExpr(0, 1, 2), 8);
    for (int e = 10; e < 16; e++) {
      f.newExpr();
    }
    Check.due("Q_EXPRS", f.query(StreamFuse.Q_EXPRS), 16);
    for (int e = 10; e <= 17; e++) {
      Check.due("evalExpr(" + e + ")", f.evalExpr(e, 1, 2), 0);
    }
    int r = f.range(0, 2);
    Check.refused("map with expression 16", f, () -> f.map(r, 16));
  }

  private static void sealedAndUnsealed() {
    StreamFuse f = new StreamFuse(4, 4, 8);
    int e = Check.expr(f, "x y *");
    int r = f.range(3, 3);
    Check.due("unsealed", f.evalExpr(e, 6, 7), 42);
    f.scan(r, 1, e);
    Check.due("sealed", f.evalExpr(e, 6, 7), 42);
    f.start(1, 0);
    f.run(2);
    List<Integer> before = Check.seen(f);
    f.evalExpr(e, 1, 1);
    f.evalExpr(-1, 1, 1);
    Check.same("state after evalExpr", Check.seen(f), before);
    Check.due("run", f.run(8), 1);
    Check.due("outValue", f.outValue(2), 60);
  }
}
