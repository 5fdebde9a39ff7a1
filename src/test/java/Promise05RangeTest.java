import java.util.ArrayList;
import java.util.List;

final class Promise05RangeTest {
  private static final int[] LOWS = {Check.MIN, Check.MIN + 1, -16, -1, 0, 1, Check.MAX - 16, Check.MAX - 15,
    Check.MAX - 14, Check.MAX - 1, Check.MAX};

  public static void main(String[] args) {
    for (int lo : LOWS) {
      refusesWrongLengths(lo);
      everyLength(lo);
    }
    wrapsAsTheDocumentShows();
    emptyRange();
    fullOfNodes();
    duringRun();
    Check.end();
  }

  private static void refusesWrongLengths(int lo) {
    StreamFuse f = new StreamFuse(8, 4, 8);
    for (int len : new int[] {Check.MIN, Check.MIN + 1, -17, -16, -2, -1, 17, 18, 128, Check.MAX - 1, Check.MAX}) {
      Check.refused("range(" + lo + ", " + len + ")", f, () -> f.range(lo, len));
    }
    Check.due("the first that is not refused", f.range(lo, 16), 0);
  }

  private static void everyLength(int lo) {
    for (int len = 0; len <= 16; len++) {
      StreamFuse f = new StreamFuse(4, 4, 8);
      List<Integer> want = new ArrayList<>();
      int v = lo;
      for (int i = 0; i < len; i++) {
        want.add(v);
        v = v == Check.MAX ? Check.MIN : v + 1;
      }
      Check.due("range(" + lo + ", " + len + ")", f.range(lo, len), 0);
      Check.values("range(" + lo + ", " + len + ")", f, 0, want.toArray(new Integer[0]));
      Check.info("range", f, 0, StreamFuse.K_RANGE, -1, -1, -1, -1, lo, len, 0, len, 0);
    }
  }

  private static void wrapsAsTheDocumentShows() {
    StreamFuse f = new StreamFuse(4, 4, 8);
    Check.values("range(2147483647, 2)", f, f.range(2147483647, 2), 2147483647, -2147483648);
  }

  private static void emptyRange() {
    StreamFuse f = new StreamFuse(4, 4, 8);
    Check.due("range(9, 0)", f.range(9, 0), 0);
    Check.values("range(9, 0)", f, 0);
    Check.due("an empty range is a node like others", f.range(9, 1), 1);
    Check.due("and can be a source", f.take(0, 1), 2);
  }

  private static void fullOfNodes() {
    for (int cap = 4; cap <= 16; cap++) {
      StreamFuse f = new StreamFuse(cap, 4, 8);
      for (int n = 0; n < cap; n++) {
        Check.due("range of " + cap, f.range(n, 1), n);
      }
      Check.refused("range beyond " + cap, f, () -> f.range(0, 1));
      Check.refused("an empty range beyond " + cap, f, () -> f.range(0, 0));
      Check.refused("a wrong range beyond " + cap, f, () -> f.range(0, -1));
    }
  }

  private static void duringRun() {
    StreamFuse f = new StreamFuse(8, 4, 8);
    f.start(f.range(5, 3), 1);
    f.run(1);
    Check.due("range", f.range(100, 16), 1);
    Check.queries("a run in progress behind range", f, 2, 0, 0, 1, 0, 1, 1, 0);
    Check.step(f, 8, 2, 3, 1);
    Check.due("outValue", f.outValue(2), 7);
  }
}
