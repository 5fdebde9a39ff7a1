final class Promise11DropTest {
  public static void main(String[] args) {
    Stages.sources("drop", (f, s, e) -> f.drop(s, 2));
    StreamFuse f = new StreamFuse(16, 4, 8);
    int source = f.range(3, 4);
    for (int n : new int[] {Integer.MIN_VALUE, -2, -1}) {
      Check.refused("drop " + n, f, () -> f.drop(source, n));
    }
    Check.values("drop 0", f, f.drop(source, 0), 3, 4, 5, 6);
    Check.values("drop 1", f, f.drop(f.range(3, 4), 1), 4, 5, 6);
    Check.values("all but one", f, f.drop(f.range(3, 4), 3), 6);
    Check.values("just all", f, f.drop(f.range(3, 4), 4));
    Check.values("one too many", f, f.drop(f.range(3, 4), 5));
    Check.values("MAX", f, f.drop(f.range(3, 4), Integer.MAX_VALUE));
    Check.values("of nothing", f, f.drop(f.range(3, 0), 2));
    Check.due("K_DROP", f.nodeInfo(1, StreamFuse.F_KIND), StreamFuse.K_DROP);
    Check.due("n is kept", f.nodeInfo(11, StreamFuse.F_PARAM1), Integer.MAX_VALUE);
    Check.due("no expression", f.nodeInfo(1, StreamFuse.F_EXPR1), -1);
    Check.end();
  }
}
