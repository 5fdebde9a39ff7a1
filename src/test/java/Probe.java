import java.util.ArrayList;
import java.util.List;
import java.util.function.Supplier;
import java.util.function.ToIntFunction;

/**
 * Shows also what no getter tells: whether the latest expression is sealed, how deep and how long it is,
 * and what is left of the run. That takes calls that use an object up, so it is done to twins: objects
 * made alike, of which one alone got the call in question.
 */
final class Probe {
  private Probe() {}

  static void refused(String name, Supplier<StreamFuse> state, ToIntFunction<StreamFuse> call) {
    Check.due(name, call.applyAsInt(state.get()), -1);
    changesNothing(name, state, call);
  }

  static void changesNothing(String name, Supplier<StreamFuse> state, ToIntFunction<StreamFuse> call) {
    StreamFuse looked = state.get();
    StreamFuse usedUp = state.get();
    int first = call.applyAsInt(looked);
    call.applyAsInt(usedUp);
    Check.same("what is seen behind " + name, Check.seen(looked), Check.seen(state.get()));
    Check.same("what follows " + name, rest(usedUp), rest(state.get()));
    Check.due(name + " once more", call.applyAsInt(looked), first);
  }

  /** No getter is called before the other calls are through, as it could do to both twins what it must not do. */
  private static List<Integer> rest(StreamFuse f) {
    List<Integer> out = new ArrayList<>();
    restOfTheRun(f, out);
    restOfTheExpressions(f, out);
    restOfTheNodes(f, out);
    for (int n = 0; n <= 16; n++) {
      out.add(f.start(n, StreamFuse.MODE_PULL));
      restOfTheRun(f, out);
      out.addAll(Check.seen(f));
    }
    return out;
  }

  private static void restOfTheRun(StreamFuse f, List<Integer> out) {
    for (int i = 0; i < 130; i++) {
      out.add(f.run(1));
    }
  }

  /** The latest one goes down to depth 1 first, then takes all the tokens that it can. */
  private static void restOfTheExpressions(StreamFuse f, List<Integer> out) {
    for (int i = 0; i < 8; i++) {
      out.add(f.tok(StreamFuse.OP_SUB, 0));
    }
    for (int e = 0; e <= 16; e++) {
      for (int i = 0; i < 17; i++) {
        out.add(f.tok(i % 2 == 0 ? StreamFuse.OP_X : StreamFuse.OP_ADD, 0));
      }
      out.add(f.newExpr());
    }
  }

  private static void restOfTheNodes(StreamFuse f, List<Integer> out) {
    for (int n = 0; n <= 16; n++) {
      out.add(f.map(n, n));
      out.add(f.take(n, 3));
    }
    for (int n = 0; n <= 16; n++) {
      out.add(f.range(n, 2));
    }
  }
}
