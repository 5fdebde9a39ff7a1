import java.lang.reflect.Constructor;
import java.lang.reflect.Field;
import java.lang.reflect.Member;
import java.lang.reflect.Method;
import java.lang.reflect.Modifier;
import java.util.Set;
import java.util.TreeSet;

/** The class has the constants, the constructor and the methods of the document, and no others. */
final class FaceTest {
  private static final String[] CONSTANTS = {
    "REFUSED=-1", "MAX_RANGE=16", "MAX_INNER=8", "MAX_EXPR_TOKENS=16", "TOKEN_POOL=128", "MAX_DEPTH=8",
    "OP_CONST=0", "OP_X=1", "OP_Y=2", "OP_ADD=3", "OP_SUB=4", "OP_MUL=5", "OP_DIV=6", "OP_MOD=7",
    "OP_LT=8", "OP_EQ=9", "K_RANGE=1", "K_MAP=2", "K_FILTER=3", "K_SCAN=4", "K_ZIP=5", "K_TAKE=6",
    "K_DROP=7", "K_CONCATMAP=8", "MODE_FUSED=0", "MODE_PULL=1", "Q_NODES=0", "Q_EXPRS=1", "Q_TOKENS=2",
    "Q_ACTIVE=3", "Q_ROOT=4", "Q_MODE=5", "Q_TOTAL=6", "Q_ENDED=7", "F_KIND=0", "F_SRC_A=1", "F_SRC_B=2",
    "F_EXPR1=3", "F_EXPR2=4", "F_PARAM1=5", "F_PARAM2=6", "F_CONSUMED=7", "F_LENGTH=8", "F_HAS_CM=9"};
  private static final String[] METHODS = {
    "newExpr()", "tok(int,int)", "evalExpr(int,int,int)", "range(int,int)", "map(int,int)", "filter(int,int)",
    "scan(int,int,int)", "zip(int,int,int)", "take(int,int)", "drop(int,int)", "concatMap(int,int,int)",
    "start(int,int)", "run(int)", "outValue(int)", "query(int)", "nodeInfo(int,int)"};

  public static void main(String[] args) throws Exception {
    Check.same("modifiers", Modifier.toString(StreamFuse.class.getModifiers()), "public final");
    Check.due("nested classes", StreamFuse.class.getDeclaredClasses().length, 0);
    constants();
    methods();
    Constructor<?>[] made = StreamFuse.class.getDeclaredConstructors();
    Check.due("constructors", made.length, 1);
    Check.same("constructor", made[0].toString(), "public StreamFuse(int,int,int)");
    Check.end();
  }

  private static void constants() throws Exception {
    Set<String> got = new TreeSet<>();
    for (Field field : StreamFuse.class.getDeclaredFields()) {
      if (!isPrivate(field)) {
        Check.same(field.getName(), Modifier.toString(field.getModifiers()), "public static final");
        Check.same(field.getName() + " type", field.getType(), int.class);
        got.add(field.getName() + "=" + field.getInt(null));
      }
    }
    Check.same("constants", got, new TreeSet<>(Set.of(CONSTANTS)));
  }

  private static void methods() {
    Set<String> got = new TreeSet<>();
    for (Method method : StreamFuse.class.getDeclaredMethods()) {
      if (!isPrivate(method)) {
        got.add(method.toString());
      }
    }
    Set<String> want = new TreeSet<>();
    for (String method : METHODS) {
      want.add("public int StreamFuse." + method);
    }
    Check.same("methods", got, want);
  }

  private static boolean isPrivate(Member member) {
    return Modifier.isPrivate(member.getModifiers());
  }
}
