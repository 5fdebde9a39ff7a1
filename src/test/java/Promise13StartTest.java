final class Promise13StartTest {
  public static void main(String[] args) {
    treeSizes();
    refusals();
    replacesTheRun();
    Check.end();
  }

  private static void treeSizes() {
    StreamFuse f = new StreamFuse(16, 8, 8);
    int e = Check.expr(f, "x");
    int a = f.range(0, 3);
    int b = f.range(0, 3);
    int mapped = f.map(a, e);
    int zipped = f.zip(mapped, b, e);
    int c = f.range(0, 3);
    int expanded = f.concatMap(c, e, e);
    int both = f.zip(expanded, zipped, e);
    int last = f.take(f.drop(f.scan(f.filter(both, e), 0, e), 0), 1);
    int[][] want = {{a, 1}, {b, 1}, {mapped, 2}, {zipped, 4}, {c, 1}, {expanded, 2}, {both, 7}, {last, 11}};
    for (int[] row : want) {
      Check.due("start fused on " + row[0], f.start(row[0], StreamFuse.MODE_FUSED), row[1]);
      Check.due("start pull on " + row[0], f.start(row[0], StreamFuse.MODE_PULL), row[1]);
    }
  }

  private static void refusals() {
    StreamFuse f = new StreamFuse(8, 8, 8);
    Check.refused("start without nodes", f, () -> f.start(0, 0));
    int r = f.range(4, 5);
    for (int round = 0; round < 3; round++) {
      for (int root : new int[] {Integer.MIN_VALUE, -1, 1, 7, 8, 16, 17, Integer.MAX_VALUE}) {
        Check.refused("start on " + root, f, () -> f.start(root, 0));
      }
      for (int mode : new int[] {Integer.MIN_VALUE, -1, 2, 3, Integer.MAX_VALUE}) {
        Check.refused("start in mode " + mode, f, () -> f.start(r, mode));
      }
      // The rounds: without a run, within one, and after its end.
      if (round == 0) {
        Check.due("start", f.start(r, 1), 1);
        Check.due("run", f.run(2), 2);
      } else if (round == 1) {
        Check.due("the run goes on", f.run(8), 3);
      }
    }
    Check.due("the run stays ended", f.run(1), 0);
  }

  private static void replacesTheRun() {
    StreamFuse f = new StreamFuse(8, 8, 8);
    int a = f.range(4, 2);
    int b = f.take(f.range(50, 3), 2);
    f.start(a, StreamFuse.MODE_FUSED);
    f.run(8);
    Check.due("ended", f.query(StreamFuse.Q_ENDED), 1);
    Check.due("start", f.start(b, StreamFuse.MODE_PULL), 2);
    int[] want = {3, 0, 0, 1, b, StreamFuse.MODE_PULL, 0, 0};
    for (int q = 0; q < want.length; q++) {
      Check.due("query(" + q + ")", f.query(q), want[q]);
    }
    Check.due("no item is kept", f.outValue(0), 0);
    Check.due("run", f.run(1), 1);
    Check.due("outValue(0)", f.outValue(0), 50);
    Check.due("outValue(1)", f.outValue(1), 0);
    Check.due("start on a consumed node", f.start(1, StreamFuse.MODE_FUSED), 1);
    Check.due("run", f.run(8), 3);
    Check.due("outValue(2)", f.outValue(2), 52);
    Check.due("the same again", f.start(1, StreamFuse.MODE_FUSED), 1);
    Check.due("Q_TOTAL", f.query(StreamFuse.Q_TOTAL), 0);
    Check.due("Q_ENDED", f.query(StreamFuse.Q_ENDED), 0);
    Check.due("start consumes nothing", f.nodeInfo(a, StreamFuse.F_CONSUMED), 0);
  }
}
