final class Promise07FilterTest {
  public static void main(String[] args) {
    Stages.common("filter");
    StreamFuse f = new StreamFuse(16, 8, 8);
    int mod3 = Check.expr(f, "x 3 %");
    int y = Check.expr(f, "y");
    int minus = Check.expr(f, "-1");
    int self = Check.expr(f, "x");
    Check.values("values, not results", f, f.filter(f.range(-4, 9), mod3), -4, -2, -1, 1, 2, 4);
    Check.info("filter", f, 1, StreamFuse.K_FILTER, 0, -1, mod3, -1, 0, 0, 0, 6, 0);
    Check.values("none is kept, as Y is 0", f, f.filter(f.range(1, 5), y));
    Check.values("all are kept, below 0 too", f, f.filter(f.range(0, 3), minus), 0, 1, 2);
    Check.values("all but 0", f, f.filter(f.range(-1, 3), self), -1, 1);
    Check.values("MAX and MIN are not 0", f, f.filter(f.range(Check.MAX, 2), self), Check.MAX, Check.MIN);
    Check.values("of nothing", f, f.filter(f.range(1, 0), minus));
    Check.values("the last one alone", f, f.filter(f.range(-5, 6), Check.expr(f, "x 0 =")), 0);
    Check.end();
  }
}
