import java.util.List;

final class Promise15OutValueTest {
  public static void main(String[] args) {
    for (int outCap = 8; outCap <= 32; outCap++) {
      window(outCap, StreamFuse.MODE_FUSED);
      window(outCap, StreamFuse.MODE_PULL);
    }
    windowBehindLargeSteps();
    emptyList();
    withoutRun();
    newRunKeepsNoItems();
    changesNothing();
    Check.end();
  }

  private static void window(int outCap, int mode) {
    StreamFuse f = new StreamFuse(4, 4, outCap);
    f.start(Check.longest(f), mode);
    for (int total = 0; total <= 129; total++) {
      int handedOut = Math.min(total, 128);
      for (int i = -2; i <= 131; i++) {
        boolean kept = i >= 0 && i < handedOut && i >= handedOut - outCap;
        Check.due("outValue(" + i + ") of " + handedOut, f.outValue(i), kept ? 1 + i : 0);
      }
      Check.due("outValue(MIN)", f.outValue(Check.MIN), 0);
      Check.due("outValue(MAX)", f.outValue(Check.MAX), 0);
      f.run(1);
    }
    Check.due("Q_ENDED", f.query(StreamFuse.Q_ENDED), 1);
    Check.due("the last item after the end", f.outValue(127), 128);
  }

  private static void withoutRun() {
    StreamFuse f = new StreamFuse(4, 4, 8);
    f.range(5, 5);
    for (int i : new int[] {Check.MIN, -1, 0, 1, 7, 8, 127, 128, 2048, Check.MAX}) {
      Check.due("outValue(" + i + ") without a run", f.outValue(i), 0);
    }
  }

  /** One call hands out as many items as are kept: the window moves by its whole width. */
  private static void windowBehindLargeSteps() {
    StreamFuse f = new StreamFuse(4, 4, 8);
    f.start(Check.longest(f), StreamFuse.MODE_PULL);
    for (int total = 8; total <= 128; total += 8) {
      f.run(8);
      Check.due("one older than the window", f.outValue(total - 9), 0);
      Check.due("the oldest in the window", f.outValue(total - 8), total - 7);
      Check.due("the newest in the window", f.outValue(total - 1), total);
      Check.due("not yet handed out", f.outValue(total), 0);
    }
    f.run(8);
    Check.due("one older than the window, ended", f.outValue(119), 0);
    Check.due("the oldest in the window, ended", f.outValue(120), 121);
    Check.due("the newest in the window, ended", f.outValue(127), 128);
    Check.due("beyond the list, ended", f.outValue(128), 0);
  }

  private static void emptyList() {
    StreamFuse f = new StreamFuse(4, 4, 8);
    f.range(5, 5);
    f.start(f.range(5, 0), StreamFuse.MODE_FUSED);
    for (int round = 0; round < 2; round++) {
      for (int i = -1; i <= 9; i++) {
        Check.due("outValue(" + i + ") of an empty list", f.outValue(i), 0);
      }
      f.run(1);
    }
  }

  private static void newRunKeepsNoItems() {
    StreamFuse f = new StreamFuse(4, 4, 8);
    int r = f.range(5, 5);
    for (int round = 0; round < 3; round++) {
      f.start(r, round % 2);
      for (int i = -1; i <= 9; i++) {
        Check.due("outValue(" + i + ") of a new run", f.outValue(i), 0);
      }
      f.run(1 + round);
      Check.due("its last item", f.outValue(round), 5 + round);
      Check.due("the one that comes next", f.outValue(round + 1), 0);
    }
  }

  private static void changesNothing() {
    StreamFuse f = new StreamFuse(4, 4, 8);
    f.start(f.range(5, 5), 0);
    f.run(3);
    List<Integer> before = Check.seen(f);
    for (int i = -3; i < 140; i++) {
      f.outValue(i);
    }
    Check.same("state after outValue", Check.seen(f), before);
    Check.due("run", f.run(8), 2);
  }
}
