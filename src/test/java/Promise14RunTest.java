final class Promise14RunTest {
  public static void main(String[] args) {
    withoutRun();
    for (int mode = StreamFuse.MODE_FUSED; mode <= StreamFuse.MODE_PULL; mode++) {
      clampsK(mode);
      endsOnTheAttemptAfterTheLast(mode);
      everySplit(mode);
      emptyList(mode);
      stageCallsDuringRun(mode);
    }
    Check.end();
  }

  private static void withoutRun() {
    StreamFuse f = new StreamFuse(4, 4, 8);
    f.range(0, 3);
    for (int k : new int[] {Integer.MIN_VALUE, -1, 0, 1, 8, Integer.MAX_VALUE}) {
      Check.refused("run(" + k + ") without a run", f, () -> f.run(k));
    }
  }

  private static void clampsK(int mode) {
    int[][] rows = {{Integer.MIN_VALUE, 1}, {-1, 1}, {0, 1}, {1, 1}, {2, 2}, {9, 9}, {10, 10}, {11, 10},
      {Integer.MAX_VALUE, 10}};
    for (int[] row : rows) {
      StreamFuse f = new StreamFuse(4, 4, 10);
      f.start(f.range(0, 16), mode);
      Check.due("run(" + row[0] + ")", f.run(row[0]), row[1]);
      Check.due("Q_TOTAL", f.query(StreamFuse.Q_TOTAL), row[1]);
      Check.due("Q_ENDED", f.query(StreamFuse.Q_ENDED), 0);
    }
  }

  private static void step(StreamFuse f, int k, int answer, int total, int ended) {
    Check.due("run(" + k + ")", f.run(k), answer);
    Check.due("Q_TOTAL after run(" + k + ")", f.query(StreamFuse.Q_TOTAL), total);
    Check.due("Q_ENDED after run(" + k + ")", f.query(StreamFuse.Q_ENDED), ended);
  }

  private static void endsOnTheAttemptAfterTheLast(int mode) {
    StreamFuse f = new StreamFuse(4, 4, 8);
    int r = f.range(1, 5);
    f.start(r, mode);
    step(f, 5, 5, 5, 0);
    step(f, 1, 0, 5, 1);
    step(f, 8, 0, 5, 1);
    step(f, -1, 0, 5, 1);
    f.start(r, mode);
    step(f, 2, 2, 2, 0);
    step(f, 3, 3, 5, 0);
    step(f, 3, 0, 5, 1);
    f.start(r, mode);
    step(f, 3, 3, 3, 0);
    step(f, 3, 2, 5, 1);
    Check.due("still active", f.query(StreamFuse.Q_ACTIVE), 1);
    Check.due("the items stay", f.outValue(4), 5);
  }

  private static void everySplit(int mode) {
    StreamFuse f = new StreamFuse(4, 4, 8);
    int len = 13;
    int r = f.range(100, len);
    for (int k = 1; k <= 8; k++) {
      f.start(r, mode);
      int total = 0;
      while (total + k <= len) {
        step(f, k, k, total + k, 0);
        for (int i = total; i < total + k; i++) {
          Check.due("outValue(" + i + ")", f.outValue(i), 100 + i);
        }
        total += k;
      }
      step(f, k, len - total, len, 1);
    }
  }

  private static void emptyList(int mode) {
    StreamFuse f = new StreamFuse(4, 4, 8);
    f.start(f.range(1, 0), mode);
    Check.due("not ended before the attempt", f.query(StreamFuse.Q_ENDED), 0);
    step(f, 0, 0, 0, 1);
    step(f, 4, 0, 0, 1);
  }

  private static void stageCallsDuringRun(int mode) {
    StreamFuse f = new StreamFuse(8, 4, 8);
    int e = Check.expr(f, "x 7 *");
    int r = f.range(1, 4);
    f.start(r, mode);
    f.run(1);
    f.map(r, e);
    f.range(90, 9);
    f.newExpr();
    f.tok(StreamFuse.OP_CONST, 6);
    step(f, 2, 2, 3, 0);
    Check.due("outValue(0)", f.outValue(0), 1);
    Check.due("outValue(2)", f.outValue(2), 3);
    f.drop(1, 3);
    step(f, 2, 1, 4, 1);
    Check.due("outValue(3)", f.outValue(3), 4);
    f.range(90, 9);
    step(f, 2, 0, 4, 1);
  }
}
