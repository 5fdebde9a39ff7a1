final class Promise13StartTest {
  public static void main(String[] args) {
    treeSizes();
    largestTrees();
    noSuchRoot();
    noSuchMode();
    previousRunStays();
    replacesTheRun();
    Check.end();
  }

  private static void treeSizes() {
    StreamFuse f = new StreamFuse(16, 8, 8);
    int e = Check.expr(f, "x");
    int a = f.range(0, 3);
    int b = f.range(0, 3);
    int mapped = f.map(a, e);
    int zipped = f.zip(mapped, b, e);
    int c = f.range(0, 3);
    int expanded = f.concatMap(c, e, e);
    int both = f.zip(expanded, zipped, e);
    int last = f.take(f.drop(f.scan(f.filter(both, e), 0, e), 0), 1);
    int[][] want = {{a, 1}, {b, 1}, {mapped, 2}, {zipped, 4}, {c, 1}, {expanded, 2}, {both, 7}, {last, 11}};
    for (int[] row : want) {
      Check.due("start fused on " + row[0], f.start(row[0], StreamFuse.MODE_FUSED), row[1]);
      Check.due("start pull on " + row[0], f.start(row[0], StreamFuse.MODE_PULL), row[1]);
    }
  }

  /** The largest trees that nodeCap leaves room for: one chain, and one that branches at every zip. */
  private static void largestTrees() {
    StreamFuse chain = new StreamFuse(16, 8, 8);
    StreamFuse branched = new StreamFuse(16, 8, 8);
    int e = Check.expr(branched, "x");
    chain.range(0, 3);
    branched.range(0, 3);
    for (int n = 1; n < 16; n++) {
      chain.drop(n - 1, 0);
      Check.due("start on the end of a chain", chain.start(n, n % 2), n + 1);
    }
    for (int n = 2; n < 16; n += 2) {
      branched.range(0, 3);
      Check.due("start on one branch", branched.start(n - 1, 0), 1);
      Check.due("zip", branched.zip(n - 2, n - 1, e), n);
      Check.due("start on a zip", branched.start(n, 1), n + 1);
    }
  }

  private static void noSuchRoot() {
    StreamFuse f = new StreamFuse(16, 8, 8);
    for (int made = 0; made <= 16; made++) {
      for (int root : new int[] {Check.MIN, Check.MIN + 1, -2, -1, made, made + 1, 16, 17, Check.MAX - 1, Check.MAX}) {
        Check.refused("start on " + root + " of " + made, f, () -> f.start(root, StreamFuse.MODE_PULL));
        Check.refused("start on " + root + " in mode 2", f, () -> f.start(root, 2));
      }
      f.range(made, 2);
    }
    Check.due("start on the last of 16", f.start(15, StreamFuse.MODE_PULL), 1);
  }

  private static void noSuchMode() {
    StreamFuse f = new StreamFuse(8, 8, 8);
    int r = f.range(4, 5);
    for (int mode : new int[] {Check.MIN, Check.MIN + 1, -2, -1, 2, 3, 16, Check.MAX - 1, Check.MAX}) {
      Check.refused("start in mode " + mode, f, () -> f.start(r, mode));
    }
  }

  /** "any previous run stays as it was": before its first item, within, at its last item, and ended. */
  private static void previousRunStays() {
    int[][] steps = {{2, 2, 0}, {3, 3, 0}, {1, 0, 1}, {1, 0, 1}};
    StreamFuse f = new StreamFuse(8, 8, 8);
    int r = f.range(4, 5);
    f.range(7, 7);
    f.start(r, StreamFuse.MODE_PULL);
    int total = 0;
    for (int[] step : steps) {
      Check.refused("start without a root", f, () -> f.start(2, StreamFuse.MODE_FUSED));
      Check.refused("start without a mode", f, () -> f.start(1, 2));
      total += step[1];
      Check.step(f, step[0], step[1], total, step[2]);
      for (int i = 0; i < 7; i++) {
        Check.due("outValue(" + i + ")", f.outValue(i), i < total ? 4 + i : 0);
      }
    }
    Check.refused("start after the end", f, () -> f.start(-1, 0));
    Check.queries("the run after the end", f, 2, 0, 0, 1, r, StreamFuse.MODE_PULL, 5, 1);
  }

  private static void replacesTheRun() {
    StreamFuse f = new StreamFuse(8, 8, 8);
    int a = f.range(4, 2);
    int b = f.take(f.range(50, 3), 2);
    f.start(a, StreamFuse.MODE_FUSED);
    f.run(8);
    Check.due("ended", f.query(StreamFuse.Q_ENDED), 1);
    Check.due("start", f.start(b, StreamFuse.MODE_PULL), 2);
    Check.queries("behind start", f, 3, 0, 0, 1, b, StreamFuse.MODE_PULL, 0, 0);
    Check.due("no item is kept", f.outValue(0), 0);
    Check.due("run", f.run(1), 1);
    Check.due("outValue(0)", f.outValue(0), 50);
    Check.due("outValue(1)", f.outValue(1), 0);
    Check.due("start on a consumed node", f.start(1, StreamFuse.MODE_FUSED), 1);
    Check.due("run", f.run(8), 3);
    Check.due("outValue(2)", f.outValue(2), 52);
    Check.due("the same again", f.start(1, StreamFuse.MODE_FUSED), 1);
    Check.due("Q_TOTAL", f.query(StreamFuse.Q_TOTAL), 0);
    Check.due("Q_ENDED", f.query(StreamFuse.Q_ENDED), 0);
    Check.due("start consumes nothing", f.nodeInfo(a, StreamFuse.F_CONSUMED), 0);
  }
}
