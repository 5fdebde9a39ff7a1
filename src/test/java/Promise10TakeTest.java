final class Promise10TakeTest {
  public static void main(String[] args) {
    Stages.sources("take", (f, s, e) -> f.take(s, 2));
    StreamFuse f = new StreamFuse(16, 4, 8);
    int source = f.range(3, 4);
    for (int n : new int[] {Integer.MIN_VALUE, -2, -1}) {
      Check.refused("take " + n, f, () -> f.take(source, n));
    }
    Check.values("take 0", f, f.take(source, 0));
    Check.values("take 1", f, f.take(f.range(3, 4), 1), 3);
    Check.values("all but one", f, f.take(f.range(3, 4), 3), 3, 4, 5);
    Check.values("just all", f, f.take(f.range(3, 4), 4), 3, 4, 5, 6);
    Check.values("one too many", f, f.take(f.range(3, 4), 5), 3, 4, 5, 6);
    Check.values("MAX", f, f.take(f.range(3, 4), Integer.MAX_VALUE), 3, 4, 5, 6);
    Check.values("of nothing", f, f.take(f.range(3, 0), 2));
    Check.due("K_TAKE", f.nodeInfo(1, StreamFuse.F_KIND), StreamFuse.K_TAKE);
    Check.due("n is kept", f.nodeInfo(11, StreamFuse.F_PARAM1), Integer.MAX_VALUE);
    Check.due("no expression", f.nodeInfo(1, StreamFuse.F_EXPR1), -1);
    Check.end();
  }
}
