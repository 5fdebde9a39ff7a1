import java.util.List;

final class Promise12ConcatMapTest {
  public static void main(String[] args) {
    Stages.sources("concatMap", (f, s, e) -> f.concatMap(s, e, e));
    Stages.exprs("concatMap, both", (f, s, e) -> f.concatMap(s, e, e));
    values();
    clamping();
    longestList();
    wrongExprs();
    refusedOverAnother();
    twoBesideEachOther();
    Check.end();
  }

  private static void values() {
    StreamFuse f = new StreamFuse(16, 8, 8);
    int self = Check.expr(f, "x");
    int tens = Check.expr(f, "x 10 * y +");
    int both = Check.expr(f, "x y +");
    Check.values("x items each", f, f.concatMap(f.range(0, 4), self, tens), 10, 20, 21, 30, 31, 32);
    Check.values("el and ev the same", f, f.concatMap(f.range(1, 3), both, both), 1, 2, 3, 3, 4, 5);
    Check.values("of nothing", f, f.concatMap(f.range(1, 0), self, tens));
    int[] want = {StreamFuse.K_CONCATMAP, 0, -1, self, tens, 0, 0, 0, 6, 1};
    for (int field = 0; field < want.length; field++) {
      Check.due("nodeInfo(1, " + field + ")", f.nodeInfo(1, field), want[field]);
    }
    Check.due("both the same, el", f.nodeInfo(3, StreamFuse.F_EXPR1), both);
    Check.due("both the same, ev", f.nodeInfo(3, StreamFuse.F_EXPR2), both);
  }

  private static void clamping() {
    StreamFuse f = new StreamFuse(16, 8, 8);
    int self = Check.expr(f, "x");
    int index = Check.expr(f, "y");
    Check.values("below 0", f, f.concatMap(f.range(-3, 4), self, index));
    Check.values("MIN", f, f.concatMap(f.range(Integer.MIN_VALUE, 1), self, index));
    Check.values("MAX", f, f.concatMap(f.range(Integer.MAX_VALUE, 1), self, index), 0, 1, 2, 3, 4, 5, 6, 7);
    Check.values("8", f, f.concatMap(f.range(8, 1), self, index), 0, 1, 2, 3, 4, 5, 6, 7);
    Check.values("9", f, f.concatMap(f.range(9, 1), self, index), 0, 1, 2, 3, 4, 5, 6, 7);
    Check.values("7", f, f.concatMap(f.range(7, 1), self, index), 0, 1, 2, 3, 4, 5, 6);
    Check.values("Y is 0 for el", f, f.concatMap(f.range(7, 1), index, self));
  }

  private static void longestList() {
    StreamFuse f = new StreamFuse(16, 8, 8);
    int eight = Check.expr(f, "8");
    int number = Check.expr(f, "x 8 * y +");
    int sum = Check.expr(f, "x y +");
    int node = f.concatMap(f.range(0, 16), eight, number);
    Check.due("F_LENGTH", f.nodeInfo(node, StreamFuse.F_LENGTH), 128);
    List<Integer> list = Check.list(f, node, StreamFuse.MODE_PULL);
    for (int i = 0; i < 128; i++) {
      Check.due("item " + i, list.get(i), i);
    }
    int second = f.concatMap(f.range(0, 16), eight, number);
    int zipped = f.zip(node, second, sum);
    int summed = f.scan(zipped, 0, sum);
    Check.due("a stage behind it", f.nodeInfo(summed, StreamFuse.F_LENGTH), 128);
    Check.due("its last item", Check.list(f, summed, 0).get(127), 127 * 128);
  }

  private static void wrongExprs() {
    StreamFuse f = new StreamFuse(8, 8, 8);
    int s = f.range(1, 2);
    int good = Check.expr(f, "x");
    f.newExpr();
    f.newExpr();
    f.tok(StreamFuse.OP_X, 0);
    f.tok(StreamFuse.OP_X, 0);
    for (int e : new int[] {Integer.MIN_VALUE, -1, 1, 2, 3, 8, 16, 17, Integer.MAX_VALUE}) {
      Check.refused("concatMap, el = " + e, f, () -> f.concatMap(s, e, good));
      Check.refused("concatMap, ev = " + e, f, () -> f.concatMap(s, good, e));
    }
    Check.due("tok", f.tok(StreamFuse.OP_ADD, 0), 1);
    Check.due("concatMap", f.concatMap(s, good, 2), 1);
    Check.due("ev is sealed", f.tok(StreamFuse.OP_X, 0), -1);
    int other = f.range(1, 2);
    int el = Check.expr(f, "1");
    Check.due("concatMap", f.concatMap(other, el, good), 3);
    Check.due("el is sealed", f.tok(StreamFuse.OP_X, 0), -1);
  }

  private static void refusedOverAnother() {
    StreamFuse f = new StreamFuse(16, 8, 8);
    int e = Check.expr(f, "x");
    int first = f.concatMap(f.range(1, 2), e, e);
    int open = Check.expr(f, "1");
    Check.refused("concatMap of concatMap", f, () -> f.concatMap(first, e, open));
    Check.due("nothing was sealed", f.tok(StreamFuse.OP_X, 0), 2);
    Check.due("tok", f.tok(StreamFuse.OP_EQ, 0), 1);
    int node = first;
    node = tryBehind(f, f.map(node, e), e);
    node = tryBehind(f, f.filter(node, e), e);
    node = tryBehind(f, f.scan(node, 0, e), e);
    node = tryBehind(f, f.take(node, 1), e);
    node = tryBehind(f, f.drop(node, 9), e);
    node = tryBehind(f, f.zip(node, f.range(0, 1), e), e);
    node = tryBehind(f, f.zip(f.range(0, 1), node, e), e);
    Check.due("F_LENGTH", f.nodeInfo(node, StreamFuse.F_LENGTH), 0);
  }

  private static int tryBehind(StreamFuse f, int node, int e) {
    Check.refused("concatMap far behind a concatMap", f, () -> f.concatMap(node, e, e));
    Check.due("F_HAS_CM", f.nodeInfo(node, StreamFuse.F_HAS_CM), 1);
    return node;
  }

  private static void twoBesideEachOther() {
    StreamFuse f = new StreamFuse(16, 8, 8);
    int e = Check.expr(f, "x");
    int a = f.concatMap(f.range(2, 1), e, e);
    int b = f.concatMap(f.range(3, 1), e, e);
    Check.values("zip of two", f, f.zip(a, b, e), 2, 2);
    int clean = f.zip(f.range(1, 2), f.range(1, 2), e);
    Check.due("a tree without one", f.nodeInfo(clean, StreamFuse.F_HAS_CM), 0);
    Check.values("behind a zip without one", f, f.concatMap(clean, e, e), 1, 2, 2);
  }
}
