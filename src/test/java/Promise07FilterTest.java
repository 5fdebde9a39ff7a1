final class Promise07FilterTest {
  public static void main(String[] args) {
    Stages.sources("filter", (f, s, e) -> f.filter(s, e));
    Stages.exprs("filter", (f, s, e) -> f.filter(s, e));
    StreamFuse f = new StreamFuse(16, 8, 8);
    int mod3 = Check.expr(f, "x 3 %");
    int y = Check.expr(f, "y");
    int one = Check.expr(f, "1");
    int self = Check.expr(f, "x");
    Check.values("values, not results", f, f.filter(f.range(-4, 9), mod3), -4, -2, -1, 1, 2, 4);
    Check.values("Y is 0", f, f.filter(f.range(1, 5), y));
    Check.values("all", f, f.filter(f.range(0, 3), one), 0, 1, 2);
    Check.values("not 0", f, f.filter(f.range(-1, 3), self), -1, 1);
    Check.values("MIN is not 0", f, f.filter(f.range(Integer.MIN_VALUE, 1), self), Integer.MIN_VALUE);
    Check.values("of nothing", f, f.filter(f.range(1, 0), one));
    Check.due("K_FILTER", f.nodeInfo(1, StreamFuse.F_KIND), StreamFuse.K_FILTER);
    Check.end();
  }
}
