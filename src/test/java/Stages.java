import java.util.LinkedHashMap;
import java.util.Map;

/** The stage calls that take a source, and what the rules for all of them ask. */
final class Stages {
  private static final int[] NO_IDS = {Check.MIN, Check.MIN + 1, -2, -1, 16, 17, 128, Check.MAX - 1, Check.MAX};

  /** Those with expressions, and all; zip stands in them twice, once for each of its sources. */
  static final Map<String, Stage> WITH_EXPR = new LinkedHashMap<>();
  static final Map<String, Stage> ALL = new LinkedHashMap<>();

  static {
    WITH_EXPR.put("map", (f, s, other, e) -> f.map(s, e));
    WITH_EXPR.put("filter", (f, s, other, e) -> f.filter(s, e));
    WITH_EXPR.put("scan", (f, s, other, e) -> f.scan(s, 0, e));
    WITH_EXPR.put("zip, as a", (f, s, other, e) -> f.zip(s, other, e));
    WITH_EXPR.put("zip, as b", (f, s, other, e) -> f.zip(other, s, e));
    WITH_EXPR.put("concatMap", (f, s, other, e) -> f.concatMap(s, e, e));
    ALL.putAll(WITH_EXPR);
    ALL.put("take", (f, s, other, e) -> f.take(s, 2));
    ALL.put("drop", (f, s, other, e) -> f.drop(s, 2));
  }

  private Stages() {}

  /** Only zip looks at other, and take and drop do not look at e. */
  interface Stage {
    int make(StreamFuse f, int s, int other, int e);
  }

  /** What holds for each stage with a source. */
  static void common(String name) {
    Stage stage = ALL.get(name);
    fullOfNodes(name, stage);
    noSuchSource(name, stage);
    consumedSource(name, stage);
    consumesOnSuccess(name, stage);
    emptySource(name, stage);
    runGoesOn(name, stage);
    if (WITH_EXPR.containsKey(name)) {
      noSuchExpr(name, stage);
      illFormedExpr(name, stage);
      sealsOnSuccess(name, stage);
    }
  }

  private static StreamFuse withRanges(int nodeCap, int ranges) {
    StreamFuse f = new StreamFuse(nodeCap, 16, 8);
    Check.expr(f, "x y +");
    for (int n = 0; n < ranges; n++) {
      f.range(1, 4);
    }
    return f;
  }

  private static void fullOfNodes(String name, Stage stage) {
    for (int cap = 4; cap <= 16; cap++) {
      StreamFuse room = withRanges(cap, cap - 1);
      Check.due(name + " as the last of " + cap, stage.make(room, cap - 2, 0, 0), cap - 1);
      StreamFuse full = withRanges(cap, cap);
      int last = cap - 1;
      Check.refused(name + " as one more than " + cap, full, () -> stage.make(full, last, 0, 0));
    }
  }

  private static void noSuchSource(String name, Stage stage) {
    StreamFuse none = withRanges(8, 0);
    Check.refused(name + " with no node at all", none, () -> stage.make(none, 0, 1, 0));
    StreamFuse f = withRanges(16, 3);
    for (int s : NO_IDS) {
      Check.refused(name + " on source " + s, f, () -> stage.make(f, s, 0, 0));
    }
    Check.refused(name + " on the source that comes next", f, () -> stage.make(f, 3, 0, 0));
    Check.due(name + " refused seals nothing", f.tok(StreamFuse.OP_X, 0), 2);
  }

  private static void consumedSource(String name, Stage stage) {
    for (Map.Entry<String, Stage> consumer : ALL.entrySet()) {
      StreamFuse f = withRanges(8, 3);
      Check.expr(f, "y");
      consumer.getValue().make(f, 1, 2, 0);
      Check.refused(name + " on a source of " + consumer.getKey(), f, () -> stage.make(f, 1, 0, 1));
      Check.due(name + " refused seals nothing", f.tok(StreamFuse.OP_X, 0), 2);
    }
  }

  private static void consumesOnSuccess(String name, Stage stage) {
    StreamFuse f = withRanges(8, 3);
    Check.due(name, stage.make(f, 1, 0, 0), 3);
    Check.due(name + " consumes its source", f.nodeInfo(1, StreamFuse.F_CONSUMED), 1);
    Check.due(name + " consumes no other node", f.nodeInfo(2, StreamFuse.F_CONSUMED), 0);
    Check.due(name + " is not consumed itself", f.nodeInfo(3, StreamFuse.F_CONSUMED), 0);
    Check.due("take of what " + name + " made", f.take(3, 1), 4);
  }

  private static void emptySource(String name, Stage stage) {
    StreamFuse f = withRanges(8, 1);
    int empty = f.range(5, 0);
    int made = stage.make(f, empty, 0, 0);
    Check.due(name + " of nothing", made, 2);
    Check.values(name + " of nothing", f, made);
    Check.due(name + " consumes an empty source", f.nodeInfo(empty, StreamFuse.F_CONSUMED), 1);
    int sealed = WITH_EXPR.containsKey(name) ? -1 : 2;
    Check.due(name + " seals without an item to evaluate", f.tok(StreamFuse.OP_X, 0), sealed);
  }

  private static int onNewRanges(StreamFuse f, Stage stage) {
    int source = f.range(1, 2);
    int other = f.range(1, 2);
    return stage.make(f, source, other, 0);
  }

  /** "A run in progress is not affected": not by a stage on its root, nor by one elsewhere. */
  private static void runGoesOn(String name, Stage stage) {
    StreamFuse f = withRanges(16, 2);
    f.start(1, StreamFuse.MODE_FUSED);
    f.run(2);
    Check.due(name + " on the root", stage.make(f, 1, 0, 0), 2);
    Check.queries("a run in progress behind " + name, f, 3, 1, 3, 1, 1, 0, 2, 0);
    Check.step(f, 1, 1, 3, 0);
    Check.due("its next item", f.outValue(2), 3);
    Check.due(name + " elsewhere", onNewRanges(f, stage), 5);
    Check.step(f, 8, 1, 4, 1);
    Check.due("its last item", f.outValue(3), 4);
    Check.due(name + " after the end", onNewRanges(f, stage), 8);
    Check.queries("an ended run behind " + name, f, 9, 1, 3, 1, 1, 0, 4, 1);
    Check.step(f, 8, 0, 4, 1);
  }

  private static void noSuchExpr(String name, Stage stage) {
    StreamFuse none = new StreamFuse(8, 8, 8);
    none.range(1, 4);
    none.range(1, 4);
    Check.refused(name + " with no expression at all", none, () -> stage.make(none, 1, 0, 0));
    StreamFuse f = withRanges(8, 2);
    for (int e : NO_IDS) {
      Check.refused(name + " with expression " + e, f, () -> stage.make(f, 1, 0, e));
    }
    Check.refused(name + " with the expression that comes next", f, () -> stage.make(f, 1, 0, 1));
    Check.due(name + " refused seals nothing", f.tok(StreamFuse.OP_X, 0), 2);
    Check.due(name + " refused consumes nothing", f.take(1, 1), 2);
  }

  /** No tokens, then every depth but 1; the same expression is good again once it is back at depth 1. */
  private static void illFormedExpr(String name, Stage stage) {
    StreamFuse f = withRanges(8, 2);
    f.newExpr();
    Check.refused(name + " with an empty expression", f, () -> stage.make(f, 1, 0, 1));
    f.tok(StreamFuse.OP_X, 0);
    for (int depth = 2; depth <= 8; depth++) {
      Check.due("push", f.tok(StreamFuse.OP_X, 0), depth);
      Check.refused(name + " with depth " + depth, f, () -> stage.make(f, 1, 0, 1));
    }
    for (int depth = 7; depth >= 1; depth--) {
      Check.due(name + " refused seals nothing", f.tok(StreamFuse.OP_ADD, 0), depth);
    }
    Check.due(name + " with depth 1", stage.make(f, 1, 0, 1), 2);
  }

  private static void sealsOnSuccess(String name, Stage stage) {
    StreamFuse f = withRanges(16, 4);
    Check.expr(f, "x y -");
    stage.make(f, 1, 0, 0);
    Check.due(name + " leaves another expression open", f.tok(StreamFuse.OP_X, 0), 2);
    Check.due("tok", f.tok(StreamFuse.OP_ADD, 0), 1);
    stage.make(f, 2, f.range(1, 1), 1);
    for (int op = StreamFuse.OP_CONST; op <= StreamFuse.OP_EQ; op++) {
      int o = op;
      Check.refused("tok(" + op + ") behind " + name, f, () -> f.tok(o, 0));
    }
    Check.due("a sealed expression is still evaluated", f.evalExpr(1, 9, 2), 16);
    Check.due("and used again by " + name, stage.make(f, 3, f.range(1, 1), 1), 8);
    for (Map.Entry<String, Stage> later : WITH_EXPR.entrySet()) {
      StreamFuse g = withRanges(16, 4);
      stage.make(g, 1, 0, 0);
      Check.due(later.getKey() + " with what " + name + " sealed", later.getValue().make(g, 2, 3, 0), 5);
    }
  }
}
