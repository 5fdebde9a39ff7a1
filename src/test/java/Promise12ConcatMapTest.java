import java.util.List;

final class Promise12ConcatMapTest {
  public static void main(String[] args) {
    Stages.common("concatMap");
    values();
    clampsTheCount();
    clampsEachCount();
    wrongExprs();
    refusedOverAnother();
    twoBesideEachOther();
    Check.end();
  }

  private static void values() {
    StreamFuse f = new StreamFuse(16, 8, 8);
    int self = Check.expr(f, "x");
    int tens = Check.expr(f, "x 10 * y +");
    int both = Check.expr(f, "x y +");
    Check.values("x items each", f, f.concatMap(f.range(0, 4), self, tens), 10, 20, 21, 30, 31, 32);
    Check.values("el and ev the same", f, f.concatMap(f.range(1, 3), both, both), 1, 2, 3, 3, 4, 5);
    Check.values("of nothing", f, f.concatMap(f.range(1, 0), self, tens));
    Check.info("concatMap", f, 1, StreamFuse.K_CONCATMAP, 0, -1, self, tens, 0, 0, 0, 6, 1);
    Check.due("both the same, el", f.nodeInfo(3, StreamFuse.F_EXPR1), both);
    Check.due("both the same, ev", f.nodeInfo(3, StreamFuse.F_EXPR2), both);
  }

  /** "below 0 becomes 0, above MAX_INNER becomes MAX_INNER" */
  private static void clampsTheCount() {
    int[][] rows = {{Check.MIN, 0}, {Check.MIN + 1, 0}, {-9, 0}, {-8, 0}, {-2, 0}, {-1, 0}, {0, 0}, {1, 1}, {2, 2},
      {6, 6}, {7, 7}, {8, 8}, {9, 8}, {10, 8}, {16, 8}, {128, 8}, {Check.MAX - 1, 8}, {Check.MAX, 8}};
    for (int[] row : rows) {
      StreamFuse f = new StreamFuse(4, 4, 8);
      int count = Check.expr(f, Integer.toString(row[0]));
      int index = Check.expr(f, "y 100 +");
      int node = f.concatMap(f.range(3, 1), count, index);
      List<Integer> list = Check.list(f, node, StreamFuse.MODE_PULL);
      List<Integer> most = List.of(100, 101, 102, 103, 104, 105, 106, 107);
      Check.same("items for a count of " + row[0], list, most.subList(0, row[1]));
      Check.due("F_LENGTH", f.nodeInfo(node, StreamFuse.F_LENGTH), row[1]);
    }
  }

  /** Each item has a count of its own: clamped ones stand beside others. */
  private static void clampsEachCount() {
    StreamFuse f = new StreamFuse(16, 8, 8);
    int self = Check.expr(f, "x");
    int tens = Check.expr(f, "x 10 * y +");
    Check.values("counts -1, 0, 1", f, f.concatMap(f.range(-1, 3), self, tens), 10);
    Check.values("counts 8 and 9", f, f.concatMap(f.range(8, 2), self, tens), 80, 81, 82, 83, 84, 85, 86, 87,
        90, 91, 92, 93, 94, 95, 96, 97);
    Check.values("counts MAX and MIN", f, f.concatMap(f.range(Check.MAX, 2), self, Check.expr(f, "y")),
        0, 1, 2, 3, 4, 5, 6, 7);
    Check.values("Y is 0 for el", f, f.concatMap(f.range(7, 1), Check.expr(f, "y"), self));
  }

  private static void wrongExprs() {
    StreamFuse f = new StreamFuse(8, 8, 8);
    int s = f.range(1, 2);
    int good = Check.expr(f, "x");
    f.newExpr();
    f.newExpr();
    f.tok(StreamFuse.OP_X, 0);
    f.tok(StreamFuse.OP_X, 0);
    for (int e : new int[] {Check.MIN, -1, 1, 2, 3, 8, 16, 17, Check.MAX}) {
      Check.refused("concatMap, el = " + e, f, () -> f.concatMap(s, e, good));
      Check.refused("concatMap, ev = " + e, f, () -> f.concatMap(s, good, e));
    }
    Check.due("tok", f.tok(StreamFuse.OP_ADD, 0), 1);
    Check.due("concatMap", f.concatMap(s, good, 2), 1);
    Check.due("ev is sealed", f.tok(StreamFuse.OP_X, 0), -1);
    int other = f.range(1, 2);
    int el = Check.expr(f, "1");
    Check.due("concatMap", f.concatMap(other, el, good), 3);
    Check.due("el is sealed", f.tok(StreamFuse.OP_X, 0), -1);
  }

  private static void refusedOverAnother() {
    StreamFuse f = new StreamFuse(16, 8, 8);
    int e = Check.expr(f, "x");
    int first = f.concatMap(f.range(1, 2), e, e);
    int open = Check.expr(f, "1");
    Check.refused("concatMap of concatMap", f, () -> f.concatMap(first, e, open));
    Check.due("nothing was sealed", f.tok(StreamFuse.OP_X, 0), 2);
    Check.due("tok", f.tok(StreamFuse.OP_EQ, 0), 1);
    int node = first;
    node = tryBehind(f, f.map(node, e), e);
    node = tryBehind(f, f.filter(node, e), e);
    node = tryBehind(f, f.scan(node, 0, e), e);
    node = tryBehind(f, f.take(node, 1), e);
    node = tryBehind(f, f.drop(node, 9), e);
    node = tryBehind(f, f.zip(node, f.range(0, 1), e), e);
    node = tryBehind(f, f.zip(f.range(0, 1), node, e), e);
    Check.due("F_LENGTH", f.nodeInfo(node, StreamFuse.F_LENGTH), 0);
  }

  private static int tryBehind(StreamFuse f, int node, int e) {
    Check.refused("concatMap far behind a concatMap", f, () -> f.concatMap(node, e, e));
    Check.due("F_HAS_CM", f.nodeInfo(node, StreamFuse.F_HAS_CM), 1);
    return node;
  }

  private static void twoBesideEachOther() {
    StreamFuse f = new StreamFuse(16, 8, 8);
    int e = Check.expr(f, "x");
    int a = f.concatMap(f.range(2, 1), e, e);
    int b = f.concatMap(f.range(3, 1), e, e);
    Check.values("zip of two", f, f.zip(a, b, e), 2, 2);
    int clean = f.zip(f.range(1, 2), f.range(1, 2), e);
    Check.due("a tree without one", f.nodeInfo(clean, StreamFuse.F_HAS_CM), 0);
    Check.values("behind a zip without one", f, f.concatMap(clean, e, e), 1, 2, 2);
  }
}
