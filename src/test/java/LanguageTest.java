import java.nio.file.Files;
import java.nio.file.Path;
import java.util.ArrayList;
import java.util.HashMap;
import java.util.List;
import java.util.Map;
import java.util.TreeSet;
import java.util.regex.Matcher;
import java.util.regex.Pattern;

/** Rules of LANGUAGE.md that the text of the class can be held against, in the layout it is written in. */
final class LanguageTest {
  private static final Path SOURCE = Path.of("src/main/java/StreamFuse.java");
  private static final String FORBIDDEN = "package|import|float|double|String|Object|Math|Integer|System|Arrays|null|"
      + "throw|throws|try|catch|synchronized|assert|instanceof|interface|enum|record|protected|native|volatile|var";
  private static final Pattern ARRAY = Pattern.compile("  private final (int|boolean)\\[\\] \\w+ = new \\1\\[[A-Z_]+\\];");
  private static final Pattern METHOD = Pattern.compile("  (public|private)( static)? (int|boolean|void) (\\w+)\\((.*)\\) \\{");
  private static final Pattern CALL = Pattern.compile("\\b([a-z]\\w*)\\(");

  private final Map<String, List<String>> bodies = new HashMap<>();
  private final Map<String, TreeSet<String>> calls = new HashMap<>();

  public static void main(String[] args) throws Exception {
    LanguageTest test = new LanguageTest();
    String text = Files.readString(SOURCE).replaceAll("(?s)/\\*.*?\\*/", "").replaceAll("//.*", "");
    test.words(text);
    test.methods(text);
    test.callGraph();
    Check.end();
  }

  private void words(String text) {
    Matcher word = Pattern.compile("\\b(" + FORBIDDEN + ")\\b|->|::|\\[\\]\\[|\"").matcher(text);
    while (word.find()) {
      Check.same("a word in the class", word.group(), "one that the rules leave");
    }
    int fields = 0;
    for (String line : text.split("\n")) {
      if (line.matches(".*\\bnew\\b.*")) {
        Check.same("an array that is made by: " + line, ARRAY.matcher(line).matches(), true);
      }
      if (line.matches("  (private|public) [^(]*;") && !line.contains(" static ") || line.contains("= new ")) {
        fields++;
      }
    }
    Check.same("at most forty fields", fields > 0 && fields <= 40, true);
  }

  private void methods(String text) {
    List<String> body = null;
    TreeSet<String> names = new TreeSet<>();
    for (String line : text.split("\n")) {
      Matcher head = METHOD.matcher(line);
      if (head.matches()) {
        Check.same("a name of its own for " + head.group(4), names.add(head.group(4)), true);
        Check.same("at most seven parameters for " + head.group(4), head.group(5).split(",").length <= 7, true);
        body = new ArrayList<>();
        bodies.put(head.group(4), body);
      } else if (line.equals("  }")) {
        body = null;
      } else if (body != null) {
        body.add(line);
      }
    }
    Check.same("methods were found", names.size() > 16, true);
  }

  private void callGraph() {
    for (Map.Entry<String, List<String>> method : bodies.entrySet()) {
      Check.same("at most sixty lines for " + method.getKey(), method.getValue().size() <= 58, true);
      TreeSet<String> called = new TreeSet<>();
      String body = String.join(" ", method.getValue());
      Matcher call = CALL.matcher(body);
      while (call.find()) {
        if (bodies.containsKey(call.group(1))) {
          called.add(call.group(1));
          noCallInArguments(method.getKey(), body, call.end());
        }
      }
      calls.put(method.getKey(), called);
    }
    for (String name : bodies.keySet()) {
      Check.same("calls at most six deep from " + name, depth(name, 0) <= 6, true);
    }
  }

  private void noCallInArguments(String name, String body, int from) {
    int open = 1;
    int at = from;
    while (open > 0) {
      char c = body.charAt(at++);
      open += c == '(' ? 1 : c == ')' ? -1 : 0;
    }
    String arguments = body.substring(from, at - 1);
    Check.same("no call among the arguments in " + name + ": " + arguments, CALL.matcher(arguments).find(), false);
  }

  /** Stops counting beyond any depth that is allowed, so that recursion shows as too deep. */
  private int depth(String name, int above) {
    int deepest = above + 1;
    if (deepest > 6) {
      return deepest;
    }
    for (String called : calls.get(name)) {
      deepest = Math.max(deepest, depth(called, above + 1));
    }
    return deepest;
  }
}
