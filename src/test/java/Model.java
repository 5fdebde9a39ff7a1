import java.math.BigInteger;
import java.util.ArrayDeque;
import java.util.ArrayList;
import java.util.Deque;
import java.util.HashMap;
import java.util.List;
import java.util.Map;

/**
 * The document once more, written the other way about: nothing is computed before it is asked for,
 * lists come by recursion over the sources, a run makes its attempts one by one, and arithmetic is exact.
 */
final class Model {
  private static final class Expr {
    final List<int[]> tokens = new ArrayList<>();
    boolean sealed;

    int depth() {
      int depth = 0;
      for (int[] token : tokens) {
        depth += token[0] <= 2 ? 1 : -1;
      }
      return depth;
    }

    int at(int x, int y) {
      Deque<Integer> stack = new ArrayDeque<>();
      for (int[] token : tokens) {
        switch (token[0]) {
          case 0 -> stack.push(token[1]);
          case 1 -> stack.push(x);
          case 2 -> stack.push(y);
          default -> {
            int b = stack.pop();
            int a = stack.pop();
            stack.push(exact(token[0], BigInteger.valueOf(a), BigInteger.valueOf(b)).intValue());
          }
        }
      }
      return stack.pop();
    }

    static BigInteger exact(int op, BigInteger a, BigInteger b) {
      boolean zero = b.signum() == 0;
      return switch (op) {
        case 3 -> a.add(b);
        case 4 -> a.subtract(b);
        case 5 -> a.multiply(b);
        case 6 -> zero ? BigInteger.ZERO : a.divide(b);
        case 7 -> zero ? BigInteger.ZERO : a.remainder(b);
        case 8 -> a.compareTo(b) < 0 ? BigInteger.ONE : BigInteger.ZERO;
        default -> a.equals(b) ? BigInteger.ONE : BigInteger.ZERO;
      };
    }
  }

  private record Node(int kind, int[] sources, int[] exprs, int p1, int p2) {}

  private final int nodeCap;
  private final int exprCap;
  private final int outCap;
  private final List<Expr> exprs = new ArrayList<>();
  private final List<Node> nodes = new ArrayList<>();
  private final Map<Integer, Integer> kept = new HashMap<>();
  private int root = -1;
  private int mode = -1;
  private int total;
  private boolean ended;

  Model(int nodeCap, int exprCap, int outCap) {
    this.nodeCap = Math.max(4, Math.min(16, nodeCap));
    this.exprCap = Math.max(4, Math.min(16, exprCap));
    this.outCap = Math.max(8, Math.min(32, outCap));
  }

  int newExpr() {
    if (exprs.size() == exprCap) {
      return -1;
    }
    exprs.add(new Expr());
    return exprs.size() - 1;
  }

  private int tokens() {
    return exprs.stream().mapToInt(e -> e.tokens.size()).sum();
  }

  int tok(int op, int arg) {
    if (exprs.isEmpty()) {
      return -1;
    }
    Expr e = exprs.get(exprs.size() - 1);
    if (e.sealed || op < 0 || op > 9 || e.tokens.size() == 16 || tokens() == 128) {
      return -1;
    }
    if (op > 2 && e.depth() < 2 || op <= 2 && e.depth() == 8) {
      return -1;
    }
    e.tokens.add(new int[] {op, arg});
    return e.depth();
  }

  private boolean wellFormed(int e) {
    return e >= 0 && e < exprs.size() && !exprs.get(e).tokens.isEmpty() && exprs.get(e).depth() == 1;
  }

  int evalExpr(int e, int x, int y) {
    return wellFormed(e) ? exprs.get(e).at(x, y) : 0;
  }

  private boolean isNode(int n) {
    return n >= 0 && n < nodes.size();
  }

  private boolean consumed(int n) {
    for (Node node : nodes) {
      for (int s : node.sources) {
        if (s == n) {
          return true;
        }
      }
    }
    return false;
  }

  int stage(int kind, int[] sources, int[] used, int p1, int p2) {
    if (nodes.size() == nodeCap) {
      return -1;
    }
    for (int s : sources) {
      if (!isNode(s) || consumed(s)) {
        return -1;
      }
    }
    if (kind == 5 && sources[0] == sources[1]) {
      return -1;
    }
    for (int e : used) {
      if (!wellFormed(e)) {
        return -1;
      }
    }
    boolean own = switch (kind) {
      case 1 -> p2 < 0 || p2 > 16;
      case 6, 7 -> p1 < 0;
      case 8 -> hasConcatMap(sources[0]);
      default -> false;
    };
    if (own) {
      return -1;
    }
    nodes.add(new Node(kind, sources, used, p1, p2));
    for (int e : used) {
      exprs.get(e).sealed = true;
    }
    return nodes.size() - 1;
  }

  private boolean hasConcatMap(int n) {
    boolean has = nodes.get(n).kind == 8;
    for (int s : nodes.get(n).sources) {
      has |= hasConcatMap(s);
    }
    return has;
  }

  private int treeSize(int n) {
    int size = 1;
    for (int s : nodes.get(n).sources) {
      size += treeSize(s);
    }
    return size;
  }

  private List<Integer> list(int n) {
    Node node = nodes.get(n);
    List<Integer> out = new ArrayList<>();
    if (node.kind == 1) {
      for (int i = 0; i < node.p2; i++) {
        out.add((int) ((long) node.p1 + i));
      }
      return out;
    }
    List<Integer> in = list(node.sources[0]);
    if (node.kind == 6) {
      return in.subList(0, Math.min(node.p1, in.size()));
    }
    if (node.kind == 7) {
      return in.subList(Math.min(node.p1, in.size()), in.size());
    }
    Expr e = exprs.get(node.exprs[0]);
    List<Integer> other = node.kind == 5 ? list(node.sources[1]) : List.of();
    int acc = node.p1;
    for (int i = 0; i < in.size(); i++) {
      int v = in.get(i);
      switch (node.kind) {
        case 2 -> out.add(e.at(v, 0));
        case 3 -> out.addAll(e.at(v, 0) != 0 ? List.of(v) : List.of());
        case 4 -> out.add(acc = e.at(acc, v));
        case 5 -> out.addAll(i < other.size() ? List.of(e.at(v, other.get(i))) : List.of());
        default -> {
          int count = Math.max(0, Math.min(8, e.at(v, 0)));
          for (int j = 0; j < count; j++) {
            out.add(exprs.get(node.exprs[1]).at(v, j));
          }
        }
      }
    }
    return out;
  }

  int start(int newRoot, int newMode) {
    if (!isNode(newRoot) || newMode != 0 && newMode != 1) {
      return -1;
    }
    root = newRoot;
    mode = newMode;
    total = 0;
    ended = false;
    kept.clear();
    return treeSize(root);
  }

  int run(int k) {
    if (root < 0) {
      return -1;
    }
    int handedOut = 0;
    int attempts = Math.max(1, Math.min(outCap, k));
    List<Integer> list = list(root);
    for (int t = 0; t < attempts && !ended; t++) {
      if (total == list.size()) {
        ended = true;
      } else {
        kept.put(total, list.get(total));
        kept.remove(total - outCap);
        total++;
        handedOut++;
      }
    }
    return handedOut;
  }

  int outValue(int i) {
    return kept.getOrDefault(i, 0);
  }

  int query(int q) {
    return switch (q) {
      case 0 -> nodes.size();
      case 1 -> exprs.size();
      case 2 -> tokens();
      case 3 -> root >= 0 ? 1 : 0;
      case 4 -> root;
      case 5 -> mode;
      case 6 -> total;
      case 7 -> ended ? 1 : 0;
      default -> -1;
    };
  }

  private static int at(int[] values, int i) {
    return i < values.length ? values[i] : -1;
  }

  int nodeInfo(int n, int f) {
    if (!isNode(n)) {
      return 0;
    }
    Node node = nodes.get(n);
    return switch (f) {
      case 0 -> node.kind;
      case 1 -> at(node.sources, 0);
      case 2 -> at(node.sources, 1);
      case 3 -> at(node.exprs, 0);
      case 4 -> at(node.exprs, 1);
      case 5 -> node.p1;
      case 6 -> node.p2;
      case 7 -> consumed(n) ? 1 : 0;
      case 8 -> list(n).size();
      case 9 -> hasConcatMap(n) ? 1 : 0;
      default -> 0;
    };
  }
}
