/**
 * Long mixed runs of calls, each answered by the class, by a second object with the modes exchanged,
 * and by the model. The calls come from a fixed sequence, so every execution makes the same ones.
 */
final class ModelTest {
  private static final int OBJECTS = 3000;
  private static final int CALLS = 150;
  private static final int[] EDGES = {Check.MIN, Check.MIN + 1, -2, -1, 0, 1, 2, 8, 9, 16, 17, 32, 33, 128,
    Check.MAX - 1, Check.MAX};

  private long state;
  private StreamFuse one;
  private StreamFuse exchanged;
  private Model model;

  public static void main(String[] args) {
    for (int seed = 1; seed <= OBJECTS; seed++) {
      new ModelTest().compare(seed);
    }
    Check.end();
  }

  /** A whole number below bound, from a fixed linear sequence. */
  private int pick(int bound) {
    state = state * 6364136223846793005L + 1442695040888963407L;
    return (int) ((state >>> 33) % bound);
  }

  private int edgeOr(int usual) {
    return pick(12) == 0 ? EDGES[pick(EDGES.length)] : usual;
  }

  private void compare(int seed) {
    state = seed;
    int nodeCap = edgeOr(pick(20));
    int exprCap = edgeOr(pick(20));
    int outCap = edgeOr(pick(40));
    one = new StreamFuse(nodeCap, exprCap, outCap);
    exchanged = new StreamFuse(nodeCap, exprCap, outCap);
    model = new Model(nodeCap, exprCap, outCap);
    for (int c = 0; c < CALLS; c++) {
      String name = "object " + seed + " call " + c + " ";
      int choice = pick(20);
      if (choice < 5) {
        typeExpression(name);
      } else if (choice < 11) {
        makeStage(name);
      } else if (choice < 16) {
        stepRun(name);
      } else {
        look(name);
      }
    }
    lookAtAll("object " + seed + " at the end, ");
  }

  private void due(String call, int got, int alsoGot, int want) {
    Check.due(call, got, want);
    Check.due(call + " with the modes exchanged", alsoGot, want);
  }

  private void typeExpression(String name) {
    if (pick(3) == 0) {
      due(name + "newExpr", one.newExpr(), exchanged.newExpr(), model.newExpr());
    }
    int tokens = pick(9);
    for (int t = 0; t < tokens; t++) {
      int op = edgeOr(pick(2) == 0 ? pick(3) : pick(10));
      int arg = edgeOr(pick(12) - 3);
      due(name + "tok(" + op + ", " + arg + ")", one.tok(op, arg), exchanged.tok(op, arg), model.tok(op, arg));
    }
  }

  private int node() {
    int made = model.query(StreamFuse.Q_NODES);
    // Mostly a late node: an early one is consumed as a rule.
    return edgeOr(pick(3) == 0 ? pick(made + 2) - 1 : made - 1 - pick(2));
  }

  private int expr() {
    return edgeOr(pick(model.query(StreamFuse.Q_EXPRS) + 1));
  }

  private void makeStage(String name) {
    int kind = 1 + pick(8);
    int s = node();
    int b = node();
    int e = expr();
    int ev = expr();
    int p = edgeOr(pick(10) - 1);
    int lo = edgeOr(pick(20) - 10);
    int len = edgeOr(pick(19) - 1);
    String call = name + "kind " + kind + " s " + s + " b " + b + " e " + e + " ev " + ev + " p " + p + " ";
    due(call, stage(one, kind, s, b, e, ev, p, lo, len), stage(exchanged, kind, s, b, e, ev, p, lo, len),
        modelStage(kind, s, b, e, ev, p, lo, len));
  }

  private static int stage(StreamFuse f, int kind, int s, int b, int e, int ev, int p, int lo, int len) {
    return switch (kind) {
      case 1 -> f.range(lo, len);
      case 2 -> f.map(s, e);
      case 3 -> f.filter(s, e);
      case 4 -> f.scan(s, lo, e);
      case 5 -> f.zip(s, b, e);
      case 6 -> f.take(s, p);
      case 7 -> f.drop(s, p);
      default -> f.concatMap(s, e, ev);
    };
  }

  private int modelStage(int kind, int s, int b, int e, int ev, int p, int lo, int len) {
    int[] none = {};
    int[] source = {s};
    int[] used = {e};
    return switch (kind) {
      case 1 -> model.stage(1, none, none, lo, len);
      case 2, 3 -> model.stage(kind, source, used, 0, 0);
      case 4 -> model.stage(4, source, used, lo, 0);
      case 5 -> model.stage(5, new int[] {s, b}, used, 0, 0);
      case 6, 7 -> model.stage(kind, source, none, p, 0);
      default -> model.stage(8, source, new int[] {e, ev}, 0, 0);
    };
  }

  private void stepRun(String name) {
    if (pick(4) == 0) {
      int root = node();
      int mode = edgeOr(pick(2));
      int otherMode = mode == 0 || mode == 1 ? 1 - mode : mode;
      due(name + "start(" + root + ", " + mode + ")", one.start(root, mode), exchanged.start(root, otherMode),
          model.start(root, mode));
    } else {
      int k = edgeOr(pick(12) - 1);
      due(name + "run(" + k + ")", one.run(k), exchanged.run(k), model.run(k));
    }
  }

  private void look(String name) {
    int e = expr();
    int x = edgeOr(pick(30) - 15);
    int y = edgeOr(pick(30) - 15);
    due(name + "evalExpr", one.evalExpr(e, x, y), exchanged.evalExpr(e, x, y), model.evalExpr(e, x, y));
    int i = edgeOr(model.query(StreamFuse.Q_TOTAL) + 2 - pick(40));
    due(name + "outValue(" + i + ")", one.outValue(i), exchanged.outValue(i), model.outValue(i));
    int n = node();
    int f = edgeOr(pick(12) - 1);
    due(name + "nodeInfo(" + n + ", " + f + ")", one.nodeInfo(n, f), exchanged.nodeInfo(n, f), model.nodeInfo(n, f));
    lookAtQueries(name);
  }

  private void lookAtQueries(String name) {
    for (int q = -1; q <= 8; q++) {
      int mode = exchanged.query(q);
      boolean swaps = q == StreamFuse.Q_MODE && mode >= 0;
      due(name + "query(" + q + ")", one.query(q), swaps ? 1 - mode : mode, model.query(q));
    }
  }

  private void lookAtAll(String name) {
    lookAtQueries(name);
    int nodes = model.query(StreamFuse.Q_NODES);
    for (int n = 0; n < nodes; n++) {
      for (int f = 0; f <= 9; f++) {
        due(name + "nodeInfo(" + n + ", " + f + ")", one.nodeInfo(n, f), exchanged.nodeInfo(n, f),
            model.nodeInfo(n, f));
      }
      due(name + "start(" + n + ")", one.start(n, 0), exchanged.start(n, 1), model.start(n, 0));
      for (int total = 0; total < 130; total++) {
        due(name + "run(1)", one.run(1), exchanged.run(1), model.run(1));
        due(name + "outValue", one.outValue(total), exchanged.outValue(total), model.outValue(total));
      }
    }
  }
}
