import java.util.ArrayList;
import java.util.List;

/** What the tests share: comparing answers, typing in expressions, and looking at a whole object. */
final class Check {
  static final int MIN = Integer.MIN_VALUE;
  static final int MAX = Integer.MAX_VALUE;

  private static int wrong = 0;

  private Check() {}

  static void due(String call, long got, long want) {
    if (got != want) {
      wrong++;
      System.out.println(call + " answered " + got + ", due is " + want);
    }
  }

  static void same(String what, Object got, Object want) {
    if (!got.equals(want)) {
      wrong++;
      System.out.println(what + " is " + got + ", due is " + want);
    }
  }

  static void end() {
    if (wrong != 0) {
      System.out.println(wrong + " answers are not as due");
      System.exit(1);
    }
  }

  /** Types in one new expression, as in "x 2 % 0 =": x, y, + - * / % < =, and numbers. */
  static int expr(StreamFuse f, String text) {
    int e = f.newExpr();
    for (String word : text.split(" ")) {
      int op = word.length() == 1 ? "xy+-*/%<=".indexOf(word) + 1 : 0;
      int arg = op == 0 ? Integer.parseInt(word) : 0;
      if (f.tok(op, arg) < 1) {
        due("tok for " + word + " of " + text, -1, 1);
      }
    }
    return e;
  }

  /** A concatMap over a range, whose list 1, 2, ... 128 is as long as one can be. */
  static int longest(StreamFuse f) {
    int eight = expr(f, "8");
    int number = expr(f, "x 8 * y + 1 +");
    int source = f.range(0, 16);
    return f.concatMap(source, eight, number);
  }

  /** The whole list of a node, read by a run of its own; one that did not end would show as too long. */
  static List<Integer> list(StreamFuse f, int node, int mode) {
    List<Integer> out = new ArrayList<>();
    f.start(node, mode);
    while (out.size() <= 128 && f.run(1) == 1) {
      out.add(f.outValue(out.size()));
    }
    return out;
  }

  /** Both modes must hand out the values named, and F_LENGTH must count them. */
  static void values(String what, StreamFuse f, int node, Integer... want) {
    same(what + ", fused", list(f, node, StreamFuse.MODE_FUSED), List.of(want));
    same(what + ", pull", list(f, node, StreamFuse.MODE_PULL), List.of(want));
    due(what + ", length", f.nodeInfo(node, StreamFuse.F_LENGTH), want.length);
  }

  /** The answers of query(0), query(1), ... in order. */
  static void queries(String when, StreamFuse f, int... want) {
    for (int q = 0; q < want.length; q++) {
      due(when + ", query(" + q + ")", f.query(q), want[q]);
    }
  }

  /** The answers of nodeInfo(node, 0), nodeInfo(node, 1), ... in order. */
  static void info(String when, StreamFuse f, int node, int... want) {
    for (int field = 0; field < want.length; field++) {
      due(when + ", nodeInfo(" + node + ", " + field + ")", f.nodeInfo(node, field), want[field]);
    }
  }

  /** One call of run, with the count and the end flag that are due behind it. */
  static void step(StreamFuse f, int k, int answer, int total, int ended) {
    due("run(" + k + ")", f.run(k), answer);
    due("Q_TOTAL after run(" + k + ")", f.query(StreamFuse.Q_TOTAL), total);
    due("Q_ENDED after run(" + k + ")", f.query(StreamFuse.Q_ENDED), ended);
  }

  /** Every answer of the getters, to see that a call has changed nothing. */
  static List<Integer> seen(StreamFuse f) {
    List<Integer> all = new ArrayList<>();
    for (int q = -1; q <= 8; q++) {
      all.add(f.query(q));
    }
    for (int n = -1; n <= 16; n++) {
      for (int field = -1; field <= 10; field++) {
        all.add(f.nodeInfo(n, field));
      }
    }
    for (int e = -1; e <= 16; e++) {
      all.add(f.evalExpr(e, 7, 3));
      all.add(f.evalExpr(e, -5, 2));
    }
    for (int i = -1; i <= 129; i++) {
      all.add(f.outValue(i));
    }
    return all;
  }

  interface Call {
    int answer();
  }

  /** The call must answer -1 and leave every getter's answer as it was. */
  static void refused(String call, StreamFuse f, Call c) {
    List<Integer> before = seen(f);
    due(call, c.answer(), -1);
    same("state after " + call, seen(f), before);
  }
}
