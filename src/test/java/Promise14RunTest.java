import java.util.List;

final class Promise14RunTest {
  public static void main(String[] args) {
    withoutRun();
    for (int mode = StreamFuse.MODE_FUSED; mode <= StreamFuse.MODE_PULL; mode++) {
      clampsK(mode);
      endsOnTheAttemptAfterTheLast(mode);
      everySplit(mode);
      longestList(mode);
      nothingChangesOnceEnded(mode);
      emptyList(mode);
      stageCallsDuringRun(mode);
    }
    Check.end();
  }

  /** Neither nodes nor a start that is refused make a run. */
  private static void withoutRun() {
    StreamFuse f = new StreamFuse(4, 4, 8);
    f.range(0, 3);
    f.start(0, 2);
    f.start(1, 0);
    for (int k : new int[] {Check.MIN, -1, 0, 1, 8, Check.MAX}) {
      Check.refused("run(" + k + ") without a run", f, () -> f.run(k));
    }
  }

  /** "k is clamped into 1..outCap": every k around both ends, for every outCap. */
  private static void clampsK(int mode) {
    for (int outCap = 8; outCap <= 32; outCap++) {
      int[] given = {Check.MIN, Check.MIN + 1, -outCap, -2, -1, 0, 1, 2, outCap - 1, outCap, outCap + 1, 33, 128,
        Check.MAX - 1, Check.MAX};
      for (int k : given) {
        StreamFuse f = new StreamFuse(4, 4, outCap);
        f.start(Check.longest(f), mode);
        int clamped = k < 1 ? 1 : k > outCap ? outCap : k;
        Check.step(f, k, clamped, clamped, 0);
        Check.step(f, k, clamped, 2 * clamped, 0);
        Check.due("the last item", f.outValue(2 * clamped - 1), 2 * clamped);
      }
    }
  }

  private static void endsOnTheAttemptAfterTheLast(int mode) {
    StreamFuse f = new StreamFuse(4, 4, 8);
    int r = f.range(1, 5);
    f.start(r, mode);
    Check.step(f, 5, 5, 5, 0);
    Check.step(f, 1, 0, 5, 1);
    Check.step(f, 8, 0, 5, 1);
    Check.step(f, -1, 0, 5, 1);
    f.start(r, mode);
    Check.step(f, 2, 2, 2, 0);
    Check.step(f, 3, 3, 5, 0);
    Check.step(f, 3, 0, 5, 1);
    f.start(r, mode);
    Check.step(f, 3, 3, 3, 0);
    Check.step(f, 3, 2, 5, 1);
    Check.due("still active", f.query(StreamFuse.Q_ACTIVE), 1);
    Check.due("the items stay", f.outValue(4), 5);
  }

  /** Every length of list by every k: whole calls, then the call that meets the end, then none more. */
  private static void everySplit(int mode) {
    for (int len = 0; len <= 16; len++) {
      StreamFuse f = new StreamFuse(4, 4, 8);
      int r = f.range(100, len);
      for (int k = 1; k <= 8; k++) {
        f.start(r, mode);
        int total = 0;
        while (total + k <= len) {
          Check.step(f, k, k, total + k, 0);
          for (int i = total; i < total + k; i++) {
            Check.due("outValue(" + i + ")", f.outValue(i), 100 + i);
          }
          total += k;
        }
        Check.step(f, k, len - total, len, 1);
        Check.due("the last item stays", f.outValue(len - 1), len == 0 ? 0 : 99 + len);
        Check.step(f, k, 0, len, 1);
      }
    }
  }

  private static void longestList(int mode) {
    StreamFuse f = new StreamFuse(4, 4, 32);
    f.start(Check.longest(f), mode);
    for (int total = 32; total <= 128; total += 32) {
      Check.step(f, 32, 32, total, 0);
    }
    Check.step(f, 32, 0, 128, 1);
  }

  private static void nothingChangesOnceEnded(int mode) {
    StreamFuse f = new StreamFuse(4, 4, 8);
    f.start(f.range(1, 5), mode);
    f.run(6);
    List<Integer> before = Check.seen(f);
    for (int k : new int[] {Check.MIN, -1, 0, 1, 5, 8, 9, Check.MAX}) {
      Check.due("run(" + k + ") once ended", f.run(k), 0);
      Check.same("state after run(" + k + ") once ended", Check.seen(f), before);
    }
    Check.due("still active", f.query(StreamFuse.Q_ACTIVE), 1);
  }

  private static void emptyList(int mode) {
    StreamFuse f = new StreamFuse(4, 4, 8);
    f.start(f.range(1, 0), mode);
    Check.due("not ended before the attempt", f.query(StreamFuse.Q_ENDED), 0);
    Check.step(f, 0, 0, 0, 1);
    Check.step(f, 4, 0, 0, 1);
  }

  private static void stageCallsDuringRun(int mode) {
    StreamFuse f = new StreamFuse(8, 4, 8);
    int e = Check.expr(f, "x 7 *");
    int r = f.range(1, 4);
    f.start(r, mode);
    f.run(1);
    f.map(r, e);
    f.range(90, 9);
    f.newExpr();
    f.tok(StreamFuse.OP_CONST, 6);
    Check.step(f, 2, 2, 3, 0);
    Check.due("outValue(0)", f.outValue(0), 1);
    Check.due("outValue(2)", f.outValue(2), 3);
    f.drop(1, 3);
    Check.step(f, 2, 1, 4, 1);
    Check.due("outValue(3)", f.outValue(3), 4);
    f.range(90, 9);
    Check.step(f, 2, 0, 4, 1);
  }
}
