/**
 * Finite integer stream pipelines built from small postfix expressions.
 *
 * A node and the expressions it is made with never change afterwards, so each node's value list is
 * computed once, when the node is made. A run is then only a position in its root's list, which is
 * why both modes answer the same and why later stage calls cannot disturb a run.
 */
public final class StreamFuse {
  public static final int REFUSED = -1;
  public static final int MAX_RANGE = 16, MAX_INNER = 8, MAX_EXPR_TOKENS = 16, TOKEN_POOL = 128, MAX_DEPTH = 8;
  public static final int OP_CONST = 0, OP_X = 1, OP_Y = 2, OP_ADD = 3, OP_SUB = 4, OP_MUL = 5,
      OP_DIV = 6, OP_MOD = 7, OP_LT = 8, OP_EQ = 9;
  public static final int K_RANGE = 1, K_MAP = 2, K_FILTER = 3, K_SCAN = 4, K_ZIP = 5, K_TAKE = 6,
      K_DROP = 7, K_CONCATMAP = 8;
  public static final int MODE_FUSED = 0, MODE_PULL = 1;
  public static final int Q_NODES = 0, Q_EXPRS = 1, Q_TOKENS = 2, Q_ACTIVE = 3, Q_ROOT = 4, Q_MODE = 5,
      Q_TOTAL = 6, Q_ENDED = 7;
  public static final int F_KIND = 0, F_SRC_A = 1, F_SRC_B = 2, F_EXPR1 = 3, F_EXPR2 = 4, F_PARAM1 = 5,
      F_PARAM2 = 6, F_CONSUMED = 7, F_LENGTH = 8, F_HAS_CM = 9;

  private static final int NONE = -1;
  private static final int LEAST_NODES = 4, MOST_NODES = 16;
  private static final int LEAST_EXPRS = 4, MOST_EXPRS = 16;
  private static final int LEAST_OUT = 8, MOST_OUT = 32;
  // No concatMap lies below another one, so no list outgrows one full expansion of a full range.
  private static final int MAX_ITEMS = MAX_RANGE * MAX_INNER;
  private static final int ITEM_SLOTS = MOST_NODES * MAX_ITEMS;

  private final int nodeCap;
  private final int exprCap;
  private final int outCap;

  // Only the latest expression grows, so the tokens of each one lie side by side in one pool.
  private final int[] tokenOp = new int[TOKEN_POOL];
  private final int[] tokenArg = new int[TOKEN_POOL];
  private int tokenCount = 0;

  private final int[] exprFirst = new int[MOST_EXPRS];
  private final int[] exprLength = new int[MOST_EXPRS];
  private final int[] exprDepth = new int[MOST_EXPRS];
  private final boolean[] exprSealed = new boolean[MOST_EXPRS];
  private int exprCount = 0;

  // Scratch for one evaluation; nothing in it outlives the call.
  private final int[] stack = new int[MAX_DEPTH];

  private final int[] nodeKind = new int[MOST_NODES];
  private final int[] nodeSourceA = new int[MOST_NODES];
  private final int[] nodeSourceB = new int[MOST_NODES];
  private final int[] nodeExpr1 = new int[MOST_NODES];
  private final int[] nodeExpr2 = new int[MOST_NODES];
  private final int[] nodeParam1 = new int[MOST_NODES];
  private final int[] nodeParam2 = new int[MOST_NODES];
  private final boolean[] nodeConsumed = new boolean[MOST_NODES];
  private final boolean[] nodeHasConcatMap = new boolean[MOST_NODES];
  private final int[] nodeTreeSize = new int[MOST_NODES];
  private final int[] nodeLength = new int[MOST_NODES];
  private final int[] items = new int[ITEM_SLOTS];
  private int nodeCount = 0;

  // A run is active exactly when it has a root: a run never goes away, it is only replaced.
  private int runRoot = NONE;
  private int runMode = NONE;
  private int runTotal = 0;
  private boolean runEnded = false;

  public StreamFuse(int nodeCap, int exprCap, int outCap) {
    this.nodeCap = clamp(nodeCap, LEAST_NODES, MOST_NODES);
    this.exprCap = clamp(exprCap, LEAST_EXPRS, MOST_EXPRS);
    this.outCap = clamp(outCap, LEAST_OUT, MOST_OUT);
  }

  public int newExpr() {
    if (exprCount >= exprCap) {
      return REFUSED;
    }
    int e = exprCount;
    exprFirst[e] = tokenCount;
    exprCount++;
    return e;
  }

  public int tok(int op, int arg) {
    if (exprCount == 0) {
      return REFUSED;
    }
    int e = exprCount - 1;
    if (!acceptsToken(e, op)) {
      return REFUSED;
    }
    tokenOp[tokenCount] = op;
    tokenArg[tokenCount] = arg;
    tokenCount++;
    exprLength[e]++;
    exprDepth[e] += isBinary(op) ? -1 : 1;
    return exprDepth[e];
  }

  public int evalExpr(int e, int x, int y) {
    return isWellFormed(e) ? valueOf(e, x, y) : 0;
  }

  public int range(int lo, int len) {
    if (!hasRoomForNode() || len < 0 || len > MAX_RANGE) {
      return REFUSED;
    }
    int n = addNode(K_RANGE, NONE, NONE, NONE, NONE, lo, len);
    for (int i = 0; i < len; i++) {
      append(n, lo + i);
    }
    return n;
  }

  public int map(int s, int e) {
    if (!hasRoomForNode() || !isFreeNode(s) || !isWellFormed(e)) {
      return REFUSED;
    }
    int n = addNode(K_MAP, s, NONE, e, NONE, 0, 0);
    int count = nodeLength[s];
    for (int i = 0; i < count; i++) {
      int v = item(s, i);
      int mapped = valueOf(e, v, 0);
      append(n, mapped);
    }
    return n;
  }

  public int filter(int s, int e) {
    if (!hasRoomForNode() || !isFreeNode(s) || !isWellFormed(e)) {
      return REFUSED;
    }
    int n = addNode(K_FILTER, s, NONE, e, NONE, 0, 0);
    int count = nodeLength[s];
    for (int i = 0; i < count; i++) {
      int v = item(s, i);
      if (valueOf(e, v, 0) != 0) {
        append(n, v);
      }
    }
    return n;
  }

  public int scan(int s, int init, int e) {
    if (!hasRoomForNode() || !isFreeNode(s) || !isWellFormed(e)) {
      return REFUSED;
    }
    int n = addNode(K_SCAN, s, NONE, e, NONE, init, 0);
    int count = nodeLength[s];
    int acc = init;
    for (int i = 0; i < count; i++) {
      int v = item(s, i);
      acc = valueOf(e, acc, v);
      append(n, acc);
    }
    return n;
  }

  public int zip(int a, int b, int e) {
    if (!hasRoomForNode() || !isFreeNode(a) || !isFreeNode(b) || a == b || !isWellFormed(e)) {
      return REFUSED;
    }
    int n = addNode(K_ZIP, a, b, e, NONE, 0, 0);
    int count = smaller(nodeLength[a], nodeLength[b]);
    for (int i = 0; i < count; i++) {
      int v = item(a, i);
      int w = item(b, i);
      int zipped = valueOf(e, v, w);
      append(n, zipped);
    }
    return n;
  }

  public int take(int s, int n) {
    if (!hasRoomForNode() || !isFreeNode(s) || n < 0) {
      return REFUSED;
    }
    int made = addNode(K_TAKE, s, NONE, NONE, NONE, n, 0);
    int kept = smaller(n, nodeLength[s]);
    copyItems(s, 0, kept, made);
    return made;
  }

  public int drop(int s, int n) {
    if (!hasRoomForNode() || !isFreeNode(s) || n < 0) {
      return REFUSED;
    }
    int made = addNode(K_DROP, s, NONE, NONE, NONE, n, 0);
    int count = nodeLength[s];
    int dropped = smaller(n, count);
    copyItems(s, dropped, count, made);
    return made;
  }

  public int concatMap(int s, int el, int ev) {
    if (!hasRoomForNode() || !isFreeNode(s) || !isWellFormed(el) || !isWellFormed(ev)
        || nodeHasConcatMap[s]) {
      return REFUSED;
    }
    int n = addNode(K_CONCATMAP, s, NONE, el, ev, 0, 0);
    int count = nodeLength[s];
    for (int i = 0; i < count; i++) {
      int v = item(s, i);
      appendInner(n, v, el, ev);
    }
    return n;
  }

  public int start(int root, int mode) {
    if (!isNode(root) || (mode != MODE_FUSED && mode != MODE_PULL)) {
      return REFUSED;
    }
    runRoot = root;
    runMode = mode;
    runTotal = 0;
    runEnded = false;
    return nodeTreeSize[root];
  }

  public int run(int k) {
    if (!hasRun()) {
      return REFUSED;
    }
    if (runEnded) {
      return 0;
    }
    int attempts = clamp(k, 1, outCap);
    int left = nodeLength[runRoot] - runTotal;
    int handedOut = smaller(attempts, left);
    runTotal += handedOut;
    // Only an attempt beyond the last item ends the run; handing out the last one does not.
    runEnded = handedOut < attempts;
    return handedOut;
  }

  public int outValue(int i) {
    if (!hasRun() || i < 0 || i >= runTotal || i < runTotal - outCap) {
      return 0;
    }
    return item(runRoot, i);
  }

  public int query(int q) {
    switch (q) {
      case Q_NODES:
        return nodeCount;
      case Q_EXPRS:
        return exprCount;
      case Q_TOKENS:
        return tokenCount;
      case Q_ACTIVE:
        return hasRun() ? 1 : 0;
      case Q_ROOT:
        return runRoot;
      case Q_MODE:
        return runMode;
      case Q_TOTAL:
        return runTotal;
      case Q_ENDED:
        return runEnded ? 1 : 0;
      default:
        return REFUSED;
    }
  }

  public int nodeInfo(int n, int f) {
    if (!isNode(n)) {
      return 0;
    }
    switch (f) {
      case F_KIND:
        return nodeKind[n];
      case F_SRC_A:
        return nodeSourceA[n];
      case F_SRC_B:
        return nodeSourceB[n];
      case F_EXPR1:
        return nodeExpr1[n];
      case F_EXPR2:
        return nodeExpr2[n];
      case F_PARAM1:
        return nodeParam1[n];
      case F_PARAM2:
        return nodeParam2[n];
      case F_CONSUMED:
        return nodeConsumed[n] ? 1 : 0;
      case F_LENGTH:
        return nodeLength[n];
      case F_HAS_CM:
        return nodeHasConcatMap[n] ? 1 : 0;
      default:
        return 0;
    }
  }

  private static int clamp(int value, int least, int greatest) {
    if (value < least) {
      return least;
    }
    return value > greatest ? greatest : value;
  }

  private static int smaller(int a, int b) {
    return a < b ? a : b;
  }

  private static boolean isBinary(int op) {
    return op >= OP_ADD;
  }

  private boolean acceptsToken(int e, int op) {
    if (exprSealed[e] || op < OP_CONST || op > OP_EQ) {
      return false;
    }
    if (exprLength[e] >= MAX_EXPR_TOKENS || tokenCount >= TOKEN_POOL) {
      return false;
    }
    return isBinary(op) ? exprDepth[e] >= 2 : exprDepth[e] < MAX_DEPTH;
  }

  // Depth 1 implies at least one token.
  private boolean isWellFormed(int e) {
    return e >= 0 && e < exprCount && exprDepth[e] == 1;
  }

  // For well-formed e alone: the depth checks made for each token keep the stack within bounds.
  private int valueOf(int e, int x, int y) {
    int first = exprFirst[e];
    int end = first + exprLength[e];
    int size = 0;
    for (int t = first; t < end; t++) {
      int op = tokenOp[t];
      if (isBinary(op)) {
        size--;
        stack[size - 1] = combine(op, stack[size - 1], stack[size]);
      } else {
        stack[size] = operand(op, tokenArg[t], x, y);
        size++;
      }
    }
    return stack[0];
  }

  private static int operand(int op, int arg, int x, int y) {
    if (op == OP_CONST) {
      return arg;
    }
    return op == OP_X ? x : y;
  }

  // Java's own int arithmetic wraps and truncates as asked, -2147483648 by -1 included.
  private static int combine(int op, int a, int b) {
    switch (op) {
      case OP_ADD:
        return a + b;
      case OP_SUB:
        return a - b;
      case OP_MUL:
        return a * b;
      case OP_DIV:
        return b == 0 ? 0 : a / b;
      case OP_MOD:
        return b == 0 ? 0 : a % b;
      case OP_LT:
        return a < b ? 1 : 0;
      default:
        return a == b ? 1 : 0;
    }
  }

  private boolean hasRoomForNode() {
    return nodeCount < nodeCap;
  }

  private boolean isNode(int n) {
    return n >= 0 && n < nodeCount;
  }

  private boolean isFreeNode(int s) {
    return isNode(s) && !nodeConsumed[s];
  }

  private boolean hasRun() {
    return runRoot != NONE;
  }

  private int addNode(int kind, int a, int b, int e1, int e2, int p1, int p2) {
    int n = nodeCount;
    nodeKind[n] = kind;
    nodeSourceA[n] = a;
    nodeSourceB[n] = b;
    nodeExpr1[n] = e1;
    nodeExpr2[n] = e2;
    nodeParam1[n] = p1;
    nodeParam2[n] = p2;
    nodeHasConcatMap[n] = kind == K_CONCATMAP;
    nodeTreeSize[n] = 1;
    attachSource(n, a);
    attachSource(n, b);
    sealExpr(e1);
    sealExpr(e2);
    nodeCount++;
    return n;
  }

  // A source feeds one stage only, so the two trees below a zip share no node and sizes add up.
  private void attachSource(int n, int s) {
    if (s == NONE) {
      return;
    }
    nodeConsumed[s] = true;
    nodeTreeSize[n] += nodeTreeSize[s];
    nodeHasConcatMap[n] |= nodeHasConcatMap[s];
  }

  private void sealExpr(int e) {
    if (e != NONE) {
      exprSealed[e] = true;
    }
  }

  private int item(int n, int i) {
    return items[n * MAX_ITEMS + i];
  }

  private void append(int n, int v) {
    items[n * MAX_ITEMS + nodeLength[n]] = v;
    nodeLength[n]++;
  }

  private void copyItems(int s, int from, int to, int n) {
    for (int i = from; i < to; i++) {
      int v = item(s, i);
      append(n, v);
    }
  }

  private void appendInner(int n, int v, int el, int ev) {
    int wanted = valueOf(el, v, 0);
    int count = clamp(wanted, 0, MAX_INNER);
    for (int j = 0; j < count; j++) {
      int inner = valueOf(ev, v, j);
      append(n, inner);
    }
  }
}
