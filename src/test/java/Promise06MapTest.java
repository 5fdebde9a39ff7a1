final class Promise06MapTest {
  public static void main(String[] args) {
    Stages.common("map");
    StreamFuse f = new StreamFuse(16, 8, 8);
    int square = Check.expr(f, "x x *");
    int withY = Check.expr(f, "x 10 * y +");
    int y = Check.expr(f, "y");
    Check.values("squares", f, f.map(f.range(-2, 5), square), 4, 1, 0, 1, 4);
    Check.info("map", f, 1, StreamFuse.K_MAP, 0, -1, square, -1, 0, 0, 0, 5, 0);
    Check.values("Y is 0", f, f.map(f.range(1, 3), withY), 10, 20, 30);
    Check.values("Y alone", f, f.map(f.range(1, 2), y), 0, 0);
    Check.values("of nothing", f, f.map(f.range(1, 0), square));
    Check.values("map of map", f, f.map(f.map(f.range(2, 2), square), square), 16, 81);
    Check.values("wrapping", f, f.map(f.range(Check.MAX, 2), withY), -10, 0);
    everyLength();
    Check.end();
  }

  private static void everyLength() {
    for (int len = 0; len <= 16; len++) {
      StreamFuse f = new StreamFuse(4, 4, 8);
      int e = Check.expr(f, "0");
      Check.due("the length of val(s)", f.nodeInfo(f.map(f.range(1, len), e), StreamFuse.F_LENGTH), len);
    }
  }
}
