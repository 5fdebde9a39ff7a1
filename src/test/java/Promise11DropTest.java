final class Promise11DropTest {
  public static void main(String[] args) {
    Stages.common("drop");
    new Cut("drop", StreamFuse::drop, (list, n) -> list.subList(n, list.size())).check();
    StreamFuse f = new StreamFuse(16, 4, 8);
    Check.values("drop 1", f, f.drop(f.range(3, 4), 1), 4, 5, 6);
    Check.info("drop", f, 1, StreamFuse.K_DROP, 0, -1, -1, -1, 1, 0, 0, 3, 0);
    Check.values("drop 0", f, f.drop(f.range(3, 4), 0), 3, 4, 5, 6);
    Check.values("just all", f, f.drop(f.range(3, 4), 4));
    Check.values("one too many", f, f.drop(f.range(3, 4), 5));
    Check.values("MAX", f, f.drop(f.range(3, 4), Check.MAX));
    Check.end();
  }
}
