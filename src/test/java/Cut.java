import java.util.List;
import java.util.stream.IntStream;

/** What take and drop share: a part of the source's list, named by a number that may be any n >= 0. */
final class Cut {
  private final String name;
  private final Stage stage;
  private final Part part;

  Cut(String name, Stage stage, Part part) {
    this.name = name;
    this.stage = stage;
    this.part = part;
  }

  interface Stage {
    int make(StreamFuse f, int s, int n);
  }

  /** The part that is due, for an n that is no more than the list's length. */
  interface Part {
    List<Integer> of(List<Integer> list, int n);
  }

  void check() {
    refusesBelowZero();
    int[] beyond = {127, 128, 129, 2048, Check.MAX - 1, Check.MAX};
    IntStream.concat(IntStream.rangeClosed(0, 18), IntStream.of(beyond)).forEach(n -> {
      for (int len = 0; len <= 16; len++) {
        StreamFuse f = new StreamFuse(4, 4, 8);
        cuts(f, f.range(50, len), listFrom(50, len), n);
      }
      StreamFuse f = new StreamFuse(4, 4, 8);
      cuts(f, Check.longest(f), listFrom(1, 128), n);
    });
  }

  private void refusesBelowZero() {
    StreamFuse f = new StreamFuse(4, 4, 8);
    int full = f.range(3, 4);
    int empty = f.range(3, 0);
    for (int n : new int[] {Check.MIN, Check.MIN + 1, -128, -4, -2, -1}) {
      Check.refused(name + " " + n, f, () -> stage.make(f, full, n));
      Check.refused(name + " " + n + " of nothing", f, () -> stage.make(f, empty, n));
    }
    Check.due(name + " by the least that is not refused", stage.make(f, full, 0), 2);
  }

  private static List<Integer> listFrom(int first, int length) {
    return IntStream.range(first, first + length).boxed().toList();
  }

  private void cuts(StreamFuse f, int s, List<Integer> list, int n) {
    List<Integer> want = part.of(list, Math.min(n, list.size()));
    int node = stage.make(f, s, n);
    Check.values(name + " " + n + " of " + list.size(), f, node, want.toArray(new Integer[0]));
    Check.due(name + " keeps n as it was given", f.nodeInfo(node, StreamFuse.F_PARAM1), n);
  }
}
