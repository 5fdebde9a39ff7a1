import java.util.function.Supplier;
import java.util.stream.IntStream;

final class Promise01ConstructionTest {
  private static final int[] EXTREMES = {Check.MIN, Check.MIN + 1, -1000000, 1000000, Check.MAX - 1, Check.MAX};

  public static void main(String[] args) {
    IntStream.concat(IntStream.of(EXTREMES), IntStream.rangeClosed(-3, 40)).forEach(cap -> {
      clampsNodeCap(cap);
      clampsExprCap(cap);
      clampsOutCap(cap);
    });
    everyMixOfExtremes();
    fixedForLife();
    fresh(() -> new StreamFuse(8, 8, 8));
    fresh(() -> new StreamFuse(Check.MIN, Check.MIN, Check.MIN));
    fresh(() -> new StreamFuse(Check.MAX, Check.MAX, Check.MAX));
    fresh(Promise01ConstructionTest::besideAnother);
    Check.end();
  }

  private static int clamped(int cap, int least, int greatest) {
    return Math.max(least, Math.min(greatest, cap));
  }

  /** The other two arguments pull the opposite way, so that none can stand in for another. */
  private static int opposite(int cap) {
    return cap < 10 ? Check.MAX : Check.MIN;
  }

  private static void clampsNodeCap(int cap) {
    StreamFuse f = new StreamFuse(cap, opposite(cap), opposite(cap));
    Check.due("nodeCap " + cap, nodesThatFit(f), clamped(cap, 4, 16));
  }

  private static void clampsExprCap(int cap) {
    StreamFuse f = new StreamFuse(opposite(cap), cap, opposite(cap));
    Check.due("exprCap " + cap, exprsThatFit(f), clamped(cap, 4, 16));
  }

  private static void clampsOutCap(int cap) {
    StreamFuse f = new StreamFuse(opposite(cap), opposite(cap), cap);
    Check.due("outCap " + cap + ", items at once", itemsAtOnce(f), clamped(cap, 8, 32));
    Check.due("outCap " + cap + ", items kept", itemsKept(f), clamped(cap, 8, 32));
  }

  private static void everyMixOfExtremes() {
    int[] given = {Check.MIN, -1, 0, 9, Check.MAX};
    for (int nodeCap : given) {
      for (int exprCap : given) {
        for (int outCap : given) {
          StreamFuse f = new StreamFuse(nodeCap, exprCap, outCap);
          String caps = " of " + nodeCap + ", " + exprCap + ", " + outCap;
          Check.due("items at once" + caps, itemsAtOnce(f), clamped(outCap, 8, 32));
          Check.due("nodes" + caps, nodesThatFit(f), clamped(nodeCap, 4, 16));
          Check.due("expressions" + caps, exprsThatFit(f), clamped(exprCap, 4, 16));
        }
      }
    }
  }

  /** Makes nodes until one is refused. */
  private static int nodesThatFit(StreamFuse f) {
    int made = f.query(StreamFuse.Q_NODES);
    while (made < 100 && f.range(0, 1) == made) {
      made++;
    }
    Check.due("one more node", f.range(0, 1), -1);
    Check.due("Q_NODES", f.query(StreamFuse.Q_NODES), made);
    return made;
  }

  private static int exprsThatFit(StreamFuse f) {
    int made = f.query(StreamFuse.Q_EXPRS);
    while (made < 100 && f.newExpr() == made) {
      made++;
    }
    Check.due("one more expression", f.newExpr(), -1);
    Check.due("Q_EXPRS", f.query(StreamFuse.Q_EXPRS), made);
    return made;
  }

  /** Starts a run on 128 items, none of which is 0, and takes as many as one call gives. */
  private static int itemsAtOnce(StreamFuse f) {
    Check.due("start", f.start(Check.longest(f), StreamFuse.MODE_FUSED), 2);
    return f.run(Check.MAX);
  }

  private static int itemsKept(StreamFuse f) {
    for (int i = 0; i < 70; i++) {
      f.run(1);
    }
    int kept = 0;
    for (int i = -1; i < 130; i++) {
      kept += f.outValue(i) != 0 ? 1 : 0;
    }
    return kept;
  }

  private static void fixedForLife() {
    StreamFuse f = new StreamFuse(5, 6, 10);
    for (int round = 0; round < 3; round++) {
      if (round == 0) {
        Check.due("items at once", itemsAtOnce(f), 10);
      }
      Check.due("nodes", nodesThatFit(f), 5);
      Check.due("expressions", exprsThatFit(f), 6);
      Check.due("start", f.start(1, round % 2), 2);
      Check.due("items at once", f.run(11), 10);
      Check.due("items kept", itemsKept(f), 10);
    }
  }

  private static StreamFuse besideAnother() {
    StreamFuse other = new StreamFuse(4, 4, 8);
    Check.expr(other, "x");
    StreamFuse f = new StreamFuse(4, 4, 8);
    other.start(other.range(0, 3), 1);
    other.run(2);
    return f;
  }

  private static void fresh(Supplier<StreamFuse> made) {
    StreamFuse f = made.get();
    Check.queries("fresh", f, 0, 0, 0, 0, -1, -1, 0, 0);
    for (int i = -1; i <= 130; i++) {
      Check.due("fresh evalExpr(" + i + ")", f.evalExpr(i, 1, 1), 0);
      Check.due("fresh outValue(" + i + ")", f.outValue(i), 0);
      for (int field = -1; field <= 10; field++) {
        Check.due("fresh nodeInfo(" + i + ", " + field + ")", f.nodeInfo(i, field), 0);
      }
    }
    Probe.refused("fresh run", made, g -> g.run(1));
    Probe.refused("fresh start", made, g -> g.start(0, 0));
    Probe.refused("fresh tok", made, g -> g.tok(0, 1));
    Probe.refused("fresh take", made, g -> g.take(0, 1));
    Check.due("the first expression", f.newExpr(), 0);
    Check.due("the first node", f.range(0, 0), 0);
  }
}
