final class Promise15OutValueTest {
  public static void main(String[] args) {
    for (int outCap : new int[] {8, 9, 31, 32}) {
      window(outCap, StreamFuse.MODE_FUSED);
      window(outCap, StreamFuse.MODE_PULL);
    }
    withoutRun();
    changesNothing();
    Check.end();
  }

  private static void window(int outCap, int mode) {
    StreamFuse f = new StreamFuse(4, 4, outCap);
    int eight = Check.expr(f, "8");
    int number = Check.expr(f, "x 8 * y + 1000 +");
    f.start(f.concatMap(f.range(0, 16), eight, number), mode);
    for (int total = 0; total <= 129; total++) {
      int handedOut = Math.min(total, 128);
      for (int i = -2; i <= 131; i++) {
        boolean kept = i >= 0 && i < handedOut && i >= handedOut - outCap;
        Check.due("outValue(" + i + ") of " + handedOut, f.outValue(i), kept ? 1000 + i : 0);
      }
      Check.due("outValue(MIN)", f.outValue(Integer.MIN_VALUE), 0);
      Check.due("outValue(MAX)", f.outValue(Integer.MAX_VALUE), 0);
      f.run(1);
    }
    Check.due("Q_ENDED", f.query(StreamFuse.Q_ENDED), 1);
    Check.due("the last item after the end", f.outValue(127), 1127);
  }

  private static void withoutRun() {
    StreamFuse f = new StreamFuse(4, 4, 8);
    f.range(5, 5);
    for (int i : new int[] {Integer.MIN_VALUE, -1, 0, 1, 7, 8, 127, 128, 2048, Integer.MAX_VALUE}) {
      Check.due("outValue(" + i + ") without a run", f.outValue(i), 0);
    }
  }

  private static void changesNothing() {
    StreamFuse f = new StreamFuse(4, 4, 8);
    f.start(f.range(5, 5), 0);
    f.run(3);
    java.util.List<Integer> before = Check.seen(f);
    for (int i = -3; i < 140; i++) {
      f.outValue(i);
    }
    Check.same("state after outValue", Check.seen(f), before);
    Check.due("run", f.run(8), 2);
  }
}
