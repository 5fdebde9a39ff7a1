import java.util.ArrayList;
import java.util.List;

/**
 * 'Not promised': exchanging the two modes in every start call leaves every answer the same, except
 * query(Q_MODE), whose answer is exchanged the same way. One script of calls is made both ways.
 */
final class ModesTest {
  private final StreamFuse f = new StreamFuse(16, 8, 9);
  private final boolean exchanged;
  private final List<Integer> answers = new ArrayList<>();
  private final List<Integer> modes = new ArrayList<>();

  private ModesTest(boolean exchanged) {
    this.exchanged = exchanged;
  }

  public static void main(String[] args) {
    ModesTest one = new ModesTest(false);
    ModesTest other = new ModesTest(true);
    one.script();
    other.script();
    Check.same("answers with the modes exchanged", other.answers, one.answers);
    List<Integer> due = new ArrayList<>();
    for (int mode : one.modes) {
      due.add(mode < 0 ? mode : 1 - mode);
    }
    Check.same("Q_MODE with the modes exchanged", other.modes, due);
    Check.same("both modes and none were seen", one.modes.containsAll(List.of(-1, 0, 1)), true);
    Check.end();
  }

  private void script() {
    int sum = Check.expr(f, "x y +");
    int odd = Check.expr(f, "x 2 %");
    int count = Check.expr(f, "x 3 -");
    look();
    start(0, 0);
    lookAtRuns(f.range(Check.MAX - 2, 9));
    lookAtRuns(f.map(0, sum));
    lookAtRuns(f.filter(1, odd));
    lookAtRuns(f.range(-3, 16));
    lookAtRuns(f.concatMap(3, count, sum));
    lookAtRuns(f.scan(4, 100, sum));
    lookAtRuns(f.zip(5, 2, sum));
    lookAtRuns(f.range(1, 0));
    lookAtRuns(f.drop(6, 1));
    lookAtRuns(f.take(8, 2));
    for (int n = 0; n < 10; n++) {
      lookAtRuns(n);
    }
  }

  private void start(int root, int mode) {
    boolean isMode = mode == StreamFuse.MODE_FUSED || mode == StreamFuse.MODE_PULL;
    answers.add(f.start(root, isMode && exchanged ? 1 - mode : mode));
    look();
  }

  private void lookAtRuns(int root) {
    answers.add(root);
    for (int mode = StreamFuse.MODE_FUSED; mode <= StreamFuse.MODE_PULL; mode++) {
      for (int k : new int[] {-1, 0, 1, 2, 5, 9, 10, Check.MAX}) {
        start(root, mode);
        int length = f.nodeInfo(root, StreamFuse.F_LENGTH);
        for (int i = 0; i <= length + 1; i++) {
          answers.add(f.run(k));
          look();
        }
        start(root, 2);
        start(-1, mode);
      }
    }
  }

  private void look() {
    List<Integer> seen = Check.seen(f);
    // Check.seen begins with query(-1), query(0), ...
    modes.add(seen.remove(1 + StreamFuse.Q_MODE));
    answers.addAll(seen);
  }
}
