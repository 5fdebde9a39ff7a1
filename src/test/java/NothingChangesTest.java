import java.util.ArrayList;
import java.util.List;
import java.util.function.Supplier;

/**
 * "when refused, nothing changes", and the getters' "It changes nothing": each refusal that the document
 * names, alone and together with others, and each getter, in every kind of state an object can be in.
 */
final class NothingChangesTest {
  private static final int[] IDS = {Check.MIN, -1, 0, 1, 2, 3, 4, 16, Check.MAX};

  public static void main(String[] args) {
    List<Supplier<StreamFuse>> states = new ArrayList<>();
    states.add(() -> new StreamFuse(6, 6, 9));
    for (int items = -1; items <= 4; items++) {
      int k = items;
      states.add(() -> busy(k, 6));
      states.add(() -> busy(k, 4));
    }
    states.add(typed("x 3 *"));
    states.add(NothingChangesTest::sealed);
    states.add(NothingChangesTest::fullOfTokens);
    for (Supplier<StreamFuse> state : states) {
      refusedInAnyState(state);
      getters(state);
      stagesWithWrongIds(state);
    }
    newExprAtTheCap();
    tokAtItsBounds();
    stagesAtTheCap();
    runWithoutRun();
    Check.end();
  }

  /**
   * Node 0 is consumed, node 1 a concatMap, nodes 2 and 3 are free; expression 0 is good and sealed, 1 empty,
   * 2 two deep and the latest. A run of three items has made as many attempts as told, or there is none.
   */
  private static StreamFuse busy(int attempts, int nodeCap) {
    StreamFuse f = new StreamFuse(nodeCap, 6, 9);
    Check.expr(f, "x y +");
    f.newExpr();
    Check.expr(f, "x 5 y -");
    f.concatMap(f.range(1, 2), 0, 0);
    f.range(7, 3);
    f.range(20, 0);
    if (attempts >= 0) {
      f.start(1, StreamFuse.MODE_PULL);
    }
    for (int i = 0; i < attempts; i++) {
      f.run(1);
    }
    return f;
  }

  private static StreamFuse sealed() {
    StreamFuse f = new StreamFuse(6, 6, 9);
    Check.expr(f, "x y +");
    f.map(f.range(1, 3), 0);
    return f;
  }

  private static StreamFuse fullOfTokens() {
    StreamFuse f = new StreamFuse(6, 16, 9);
    for (int e = 0; e < 16; e++) {
      Check.expr(f, "x y + x y * + 3");
    }
    return f;
  }

  private static void refusedInAnyState(Supplier<StreamFuse> state) {
    for (int wrong : new int[] {Check.MIN, -1, 17, Check.MAX}) {
      Probe.refused("tok(" + wrong + ", 1)", state, f -> f.tok(wrong, 1));
      Probe.refused("range(5, " + wrong + ")", state, f -> f.range(5, wrong));
      Probe.refused("start(" + wrong + ", 0)", state, f -> f.start(wrong, 0));
      Probe.refused("start(0, " + wrong + ")", state, f -> f.start(0, wrong));
      Probe.refused("start(2, " + wrong + ")", state, f -> f.start(2, wrong));
    }
    for (int n : new int[] {Check.MIN, -1}) {
      for (int s : IDS) {
        Probe.refused("take(" + s + ", " + n + ")", state, f -> f.take(s, n));
        Probe.refused("drop(" + s + ", " + n + ")", state, f -> f.drop(s, n));
      }
    }
  }

  private static void getters(Supplier<StreamFuse> state) {
    for (int i : new int[] {Check.MIN, -1, 0, 1, 2, 3, 5, 7, 8, 9, 10, 16, Check.MAX}) {
      Probe.changesNothing("query(" + i + ")", state, f -> f.query(i));
      Probe.changesNothing("outValue(" + i + ")", state, f -> f.outValue(i));
      Probe.changesNothing("evalExpr(" + i + ", 3, 4)", state, f -> f.evalExpr(i, 3, 4));
      Probe.changesNothing("nodeInfo(" + i + ", 8)", state, f -> f.nodeInfo(i, StreamFuse.F_LENGTH));
      Probe.changesNothing("nodeInfo(1, " + i + ")", state, f -> f.nodeInfo(1, i));
    }
  }

  /** At least one id is wrong in each of these calls, and in many of them more than one. */
  private static void stagesWithWrongIds(Supplier<StreamFuse> state) {
    int nodes = state.get().query(StreamFuse.Q_NODES);
    int exprs = state.get().query(StreamFuse.Q_EXPRS);
    for (int s : IDS) {
      for (int e : IDS) {
        if (s < 0 || s >= nodes || e < 0 || e >= exprs) {
          String ids = "(" + s + ", " + e + ")";
          Probe.refused("map" + ids, state, f -> f.map(s, e));
          Probe.refused("filter" + ids, state, f -> f.filter(s, e));
          Probe.refused("scan" + ids, state, f -> f.scan(s, 9, e));
          Probe.refused("zip, as a" + ids, state, f -> f.zip(s, 2, e));
          Probe.refused("zip, as b" + ids, state, f -> f.zip(2, s, e));
          Probe.refused("concatMap, el" + ids, state, f -> f.concatMap(s, e, 0));
          Probe.refused("concatMap, ev" + ids, state, f -> f.concatMap(s, 0, e));
        }
      }
      if (s < 0 || s >= nodes) {
        Probe.refused("take(" + s + ", 1)", state, f -> f.take(s, 1));
        Probe.refused("drop(" + s + ", 1)", state, f -> f.drop(s, 1));
      }
      Probe.refused("zip of " + s + " with itself", state, f -> f.zip(s, s, 0));
    }
  }

  private static void newExprAtTheCap() {
    Probe.refused("newExpr at the cap", () -> {
      StreamFuse f = busy(2, 6);
      Check.expr(f, "x");
      Check.expr(f, "y");
      Check.expr(f, "x 3 *");
      return f;
    }, StreamFuse::newExpr);
    Probe.refused("newExpr with no tokens left", NothingChangesTest::fullOfTokens, StreamFuse::newExpr);
  }

  private static Supplier<StreamFuse> typed(String... texts) {
    return () -> {
      StreamFuse f = busy(2, 6);
      for (String text : texts) {
        Check.expr(f, text);
      }
      return f;
    };
  }

  private static void tokAtItsBounds() {
    for (int op = StreamFuse.OP_CONST; op <= StreamFuse.OP_EQ; op++) {
      int o = op;
      Probe.refused("tok(" + op + ") without an expression", () -> new StreamFuse(6, 6, 9), f -> f.tok(o, 1));
      Probe.refused("tok(" + op + ") on a sealed one", NothingChangesTest::sealed, f -> f.tok(o, 1));
      Probe.refused("tok(" + op + ") with no tokens left", NothingChangesTest::fullOfTokens, f -> f.tok(o, 1));
      Probe.refused("tok(" + op + ") as token 17", typed("x 1 + 2 + 3 + 4 + 5 + 6 + 7 + 8"), f -> f.tok(o, 1));
      if (op <= StreamFuse.OP_Y) {
        Probe.refused("tok(" + op + ") at MAX_DEPTH", typed("x y 1 x y 2 x y"), f -> f.tok(o, 1));
      } else {
        Probe.refused("tok(" + op + ") at depth 1", typed("x"), f -> f.tok(o, 1));
      }
    }
  }

  /** Every argument is good, but no node fits any more. */
  private static void stagesAtTheCap() {
    Supplier<StreamFuse> full = () -> busy(2, 4);
    Probe.refused("range at the cap", full, f -> f.range(0, 1));
    Probe.refused("map at the cap", full, f -> f.map(2, 0));
    Probe.refused("filter at the cap", full, f -> f.filter(2, 0));
    Probe.refused("scan at the cap", full, f -> f.scan(2, 1, 0));
    Probe.refused("zip at the cap", full, f -> f.zip(2, 3, 0));
    Probe.refused("take at the cap", full, f -> f.take(2, 1));
    Probe.refused("drop at the cap", full, f -> f.drop(2, 1));
    Probe.refused("concatMap at the cap", full, f -> f.concatMap(2, 0, 0));
    Supplier<StreamFuse> room = () -> busy(2, 6);
    Probe.refused("map on a consumed source", room, f -> f.map(0, 0));
    Probe.refused("map with an empty expression", room, f -> f.map(2, 1));
    Probe.refused("map with an open expression", room, f -> f.map(2, 2));
    Probe.refused("concatMap of a concatMap", room, f -> f.concatMap(1, 0, 0));
  }

  private static void runWithoutRun() {
    for (int k : new int[] {Check.MIN, 0, 1, 9, Check.MAX}) {
      Probe.refused("run without a run", () -> busy(-1, 6), f -> f.run(k));
      Probe.changesNothing("run once ended", () -> busy(4, 6), f -> f.run(k));
    }
  }
}
