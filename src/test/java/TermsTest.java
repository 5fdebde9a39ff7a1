import java.util.ArrayList;
import java.util.List;
import java.util.Map;
import java.util.stream.IntStream;

/** Sentences of 'Terms' that belong to no single promise; those on one stage call are held by Stages. */
final class TermsTest {
  public static void main(String[] args) {
    idsCountTheNodesThatWereMade();
    for (Map.Entry<String, Stages.Stage> maker : Stages.ALL.entrySet()) {
      nodesNeverChange(maker.getKey(), maker.getValue());
    }
    longestListThroughEveryStage();
    longestListsInAZip();
    lastItemDoesNotEndTheRun();
    endedRunStaysActive();
    Check.end();
  }

  private static void idsCountTheNodesThatWereMade() {
    StreamFuse f = new StreamFuse(16, 4, 8);
    int e = Check.expr(f, "x");
    Check.due("range", f.range(1, 4), 0);
    Check.due("a range that is refused", f.range(1, 17), -1);
    Check.due("map", f.map(0, e), 1);
    Check.due("a map that is refused", f.map(0, e), -1);
    Check.due("filter", f.filter(1, e), 2);
    Check.due("scan", f.scan(2, 0, e), 3);
    Check.due("a take that is refused", f.take(3, -1), -1);
    Check.due("take", f.take(3, 3), 4);
    Check.due("drop", f.drop(4, 1), 5);
    Check.due("concatMap", f.concatMap(5, e, e), 6);
    Check.due("a concatMap that is refused", f.concatMap(6, e, e), -1);
    Check.due("range", f.range(1, 4), 7);
    Check.due("zip", f.zip(6, 7, e), 8);
  }

  /** "never change, except that a node becomes consumed": a node of each kind, as the source of each stage. */
  private static void nodesNeverChange(String name, Stages.Stage maker) {
    for (Map.Entry<String, Stages.Stage> consumer : Stages.ALL.entrySet()) {
      StreamFuse f = new StreamFuse(8, 4, 8);
      int e = Check.expr(f, "x y +");
      f.range(1, 4);
      f.range(2, 5);
      f.range(3, 6);
      int node = maker.make(f, 0, 1, e);
      List<Integer> list = Check.list(f, node, StreamFuse.MODE_FUSED);
      List<Integer> fields = fields(f, node);
      boolean isSecondConcatMap = name.equals("concatMap") && consumer.getKey().equals("concatMap");
      int made = consumer.getValue().make(f, node, 2, e);
      Check.due(consumer.getKey() + " of " + name, made, isSecondConcatMap ? -1 : 4);
      fields.set(StreamFuse.F_CONSUMED, isSecondConcatMap ? 0 : 1);
      Check.same("fields of " + name + " behind " + consumer.getKey(), fields(f, node), fields);
      Check.same("list of " + name + " behind " + consumer.getKey(), Check.list(f, node, StreamFuse.MODE_PULL), list);
    }
  }

  private static List<Integer> fields(StreamFuse f, int node) {
    List<Integer> fields = new ArrayList<>();
    for (int field = StreamFuse.F_KIND; field <= StreamFuse.F_HAS_CM; field++) {
      fields.add(f.nodeInfo(node, field));
    }
    return fields;
  }

  /** "every list has at most MAX_RANGE*MAX_INNER = 128 items": just as many, from node 1 to node 15. */
  private static void longestListThroughEveryStage() {
    StreamFuse f = new StreamFuse(16, 8, 8);
    int node = Check.longest(f);
    int x = Check.expr(f, "x");
    int y = Check.expr(f, "y");
    Check.due("the longest list's node", node, 1);
    for (int n = 1; n < 15; n++) {
      holdsOneTo128(f, n);
      int made = switch (n % 6) {
        case 0 -> f.map(n, x);
        case 1 -> f.filter(n, x);
        case 2 -> f.scan(n, -1, y);
        case 3 -> f.take(n, 128);
        case 4 -> f.drop(n, 0);
        default -> f.take(n, Check.MAX);
      };
      Check.due("the next node", made, n + 1);
    }
    holdsOneTo128(f, 15);
  }

  private static void longestListsInAZip() {
    StreamFuse f = new StreamFuse(16, 8, 8);
    int a = Check.longest(f);
    int b = Check.longest(f);
    int mean = Check.expr(f, "x y + 2 /");
    holdsOneTo128(f, f.zip(a, b, mean));
    holdsOneTo128(f, a);
    holdsOneTo128(f, b);
  }

  private static void holdsOneTo128(StreamFuse f, int node) {
    Check.values("the longest list", f, node, IntStream.rangeClosed(1, 128).boxed().toArray(Integer[]::new));
  }

  /** For each length, in one call as in single ones. */
  private static void lastItemDoesNotEndTheRun() {
    for (int len = 1; len <= 16; len++) {
      StreamFuse f = new StreamFuse(4, 4, 32);
      int r = f.range(1, len);
      f.start(r, StreamFuse.MODE_FUSED);
      Check.step(f, len, len, len, 0);
      Check.step(f, 1, 0, len, 1);
      f.start(r, StreamFuse.MODE_PULL);
      for (int total = 1; total <= len; total++) {
        Check.step(f, 1, 1, total, 0);
      }
      Check.step(f, 1, 0, len, 1);
    }
  }

  private static void endedRunStaysActive() {
    StreamFuse f = new StreamFuse(4, 4, 8);
    int r = f.range(1, 2);
    f.start(r, StreamFuse.MODE_PULL);
    f.run(3);
    Check.queries("ended", f, 1, 0, 0, 1, r, StreamFuse.MODE_PULL, 2, 1);
    f.start(r, 2);
    f.start(1, StreamFuse.MODE_FUSED);
    Check.queries("ended, behind a start that is refused", f, 1, 0, 0, 1, r, StreamFuse.MODE_PULL, 2, 1);
    f.start(r, StreamFuse.MODE_FUSED);
    Check.queries("replaced", f, 1, 0, 0, 1, r, StreamFuse.MODE_FUSED, 0, 0);
  }
}
