final class Promise05RangeTest {
  public static void main(String[] args) {
    StreamFuse f = new StreamFuse(8, 4, 8);
    for (int len : new int[] {Integer.MIN_VALUE, -17, -1, 17, 18, Integer.MAX_VALUE}) {
      Check.refused("range(0, " + len + ")", f, () -> f.range(0, len));
    }
    Check.due("range", f.range(-2, 5), 0);
    Check.due("range", f.range(9, 0), 1);
    Check.due("range", f.range(Integer.MAX_VALUE, 2), 2);
    Check.due("range", f.range(1, 16), 3);
    Check.due("range", f.range(Integer.MIN_VALUE, 1), 4);
    Check.due("range", f.range(Integer.MAX_VALUE - 14, 16), 5);
    Check.values("range(-2, 5)", f, 0, -2, -1, 0, 1, 2);
    Check.values("range(9, 0)", f, 1);
    Check.values("range(MAX, 2)", f, 2, Integer.MAX_VALUE, Integer.MIN_VALUE);
    Check.values("range(1, 16)", f, 3, 1, 2, 3, 4, 5, 6, 7, 8, 9, 10, 11, 12, 13, 14, 15, 16);
    Check.values("range(MIN, 1)", f, 4, Integer.MIN_VALUE);
    Check.due("a full range that wraps", Check.list(f, 5, 0).get(15), Integer.MIN_VALUE);
    info(f);
    f.range(0, 1);
    f.range(0, 1);
    Check.refused("range at nodeCap", f, () -> f.range(0, 1));
    Check.refused("a wrong range at nodeCap", f, () -> f.range(0, -1));
    duringRun();
    Check.end();
  }

  private static void info(StreamFuse f) {
    int[] want = {StreamFuse.K_RANGE, -1, -1, -1, -1, -2, 5, 0, 5, 0};
    for (int field = 0; field < want.length; field++) {
      Check.due("nodeInfo(0, " + field + ")", f.nodeInfo(0, field), want[field]);
    }
  }

  private static void duringRun() {
    StreamFuse f = new StreamFuse(8, 4, 8);
    f.start(f.range(5, 3), 1);
    f.run(1);
    Check.due("range", f.range(100, 16), 1);
    Check.due("run", f.run(8), 2);
    Check.due("outValue", f.outValue(2), 7);
  }
}
