/** The refusals that every stage call with sources or expressions has in common. */
final class Stages {
  private Stages() {}

  interface Stage {
    int make(StreamFuse f, int s, int e);
  }

  /** For a stage of one source: full, missing and consumed sources are refused and change nothing. */
  static void sources(String name, Stage stage) {
    StreamFuse f = new StreamFuse(6, 8, 8);
    int e = Check.expr(f, "x y +");
    Check.refused(name + " with no node at all", f, () -> stage.make(f, 0, e));
    int used = f.range(1, 4);
    int user = f.take(used, 3);
    for (int s : new int[] {Integer.MIN_VALUE, -1, 2, 3, 6, 16, 17, Integer.MAX_VALUE}) {
      Check.refused(name + " on source " + s, f, () -> stage.make(f, s, e));
    }
    Check.refused(name + " on a consumed source", f, () -> stage.make(f, used, e));
    stillOpen(name, f);
    f.start(user, 0);
    f.run(2);
    int made = stage.make(f, user, 1);
    Check.due(name, made, 2);
    Check.due(name + " consumes its source", f.nodeInfo(user, StreamFuse.F_CONSUMED), 1);
    Check.due(name + " is not consumed itself", f.nodeInfo(made, StreamFuse.F_CONSUMED), 0);
    Check.due(name + " names its source", f.nodeInfo(made, StreamFuse.F_SRC_A), user);
    Check.due("the run goes on after " + name, f.run(8), 1);
    Check.due("the run's item after " + name, f.outValue(2), 3);
    Check.refused(name + " on the same source again", f, () -> stage.make(f, user, 1));
    f.range(0, 1);
    f.range(0, 1);
    int last = f.range(0, 1);
    Check.refused(name + " at nodeCap", f, () -> stage.make(f, last, 1));
  }

  /** Refused calls seal nothing: the latest expression still takes tokens; leaves expression 1 closed. */
  private static void stillOpen(String name, StreamFuse f) {
    Check.due(name + " refused seals nothing", f.tok(StreamFuse.OP_CONST, 0), 2);
    Check.due("tok", f.tok(StreamFuse.OP_ADD, 0), 1);
    Check.expr(f, "x y +");
  }

  /** For a stage with an expression: missing and ill-formed ones are refused, a good one is sealed. */
  static void exprs(String name, Stage stage) {
    StreamFuse f = new StreamFuse(6, 8, 8);
    int s = f.range(1, 4);
    Check.refused(name + " with no expression at all", f, () -> stage.make(f, s, 0));
    f.newExpr();
    f.newExpr();
    f.tok(StreamFuse.OP_X, 0);
    f.tok(StreamFuse.OP_X, 0);
    for (int e : new int[] {Integer.MIN_VALUE, -1, 0, 1, 2, 3, 8, 16, 17, Integer.MAX_VALUE}) {
      Check.refused(name + " with expression " + e, f, () -> stage.make(f, s, e));
    }
    Check.due("tok", f.tok(StreamFuse.OP_ADD, 0), 1);
    Check.due(name, stage.make(f, s, 1), 1);
    Check.refused("tok after " + name, f, () -> f.tok(StreamFuse.OP_X, 0));
    int again = f.range(1, 4);
    Check.due(name + " with a sealed expression", stage.make(f, again, 1), 3);
  }
}
