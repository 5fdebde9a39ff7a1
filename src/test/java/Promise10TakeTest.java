final class Promise10TakeTest {
  public static void main(String[] args) {
    Stages.common("take");
    new Cut("take", StreamFuse::take, (list, n) -> list.subList(0, n)).check();
    StreamFuse f = new StreamFuse(16, 4, 8);
    Check.values("take 1", f, f.take(f.range(3, 4), 1), 3);
    Check.info("take", f, 1, StreamFuse.K_TAKE, 0, -1, -1, -1, 1, 0, 0, 1, 0);
    Check.values("take 0", f, f.take(f.range(3, 4), 0));
    Check.values("just all", f, f.take(f.range(3, 4), 4), 3, 4, 5, 6);
    Check.values("one too many", f, f.take(f.range(3, 4), 5), 3, 4, 5, 6);
    Check.values("MAX", f, f.take(f.range(3, 4), Check.MAX), 3, 4, 5, 6);
    Check.end();
  }
}
