import java.lang.reflect.Field;
import java.lang.reflect.Method;
import java.net.URL;
import java.net.URLClassLoader;
import java.nio.file.Files;
import java.nio.file.Path;
import java.util.ArrayList;
import java.util.List;
import java.util.function.Supplier;
import java.util.regex.Matcher;
import java.util.regex.Pattern;
import java.util.stream.Stream;
import javax.tools.ToolProvider;

/** README.md tells every public name of the class, and its example answers what stands beside each call. */
final class ReadmeTest {
  private static final Pattern ANSWER = Pattern.compile("(f\\.\\w+\\(.*\\)); *// (-?\\d+)(:.*)?");
  private static final Pattern LIST = Pattern.compile("int (\\w+) = f\\.\\w+\\(.*\\); *// lists (.*)");

  private final StringBuilder calls = new StringBuilder();
  private final StringBuilder lists = new StringBuilder();
  private final List<Integer> want = new ArrayList<>();
  private final List<Integer> wantInLists = new ArrayList<>();

  public static void main(String[] args) throws Exception {
    String text = Files.readString(Path.of("README.md"));
    tellsEveryName(text);
    Check.same("it says how to run the tests", text.contains("```sh\n.ci/run\n```"), true);
    new ReadmeTest().example(text.split("```java\n")[1].split("```")[0]);
    Check.end();
  }

  private static void tellsEveryName(String text) {
    for (Method method : StreamFuse.class.getMethods()) {
      if (method.getDeclaringClass() == StreamFuse.class) {
        String parameters = "\\w+" + ", \\w+".repeat(Math.max(0, method.getParameterCount() - 1));
        String call = "`" + method.getName() + "\\(" + (method.getParameterCount() == 0 ? "" : parameters) + "\\)`";
        Check.same("README.md tells " + call, Pattern.compile(call).matcher(text).find(), true);
      }
    }
    for (Field field : StreamFuse.class.getFields()) {
      Check.same("README.md tells " + field.getName(), text.contains("`" + field.getName() + "`"), true);
    }
  }

  private void example(String lines) throws Exception {
    for (String line : lines.split("\n")) {
      translate(line);
    }
    want.addAll(wantInLists);
    Check.same("the example shows answers and lists", want.size() > 10 && !wantInLists.isEmpty(), true);
    Check.same("the example's answers", answers(), want);
  }

  /** The example's calls stay as they are and in their order; the lists are read behind them all. */
  private void translate(String line) {
    Matcher answer = ANSWER.matcher(line);
    Matcher list = LIST.matcher(line);
    if (answer.matches()) {
      calls.append("answers.add(").append(answer.group(1)).append(");\n");
      want.add(Integer.valueOf(answer.group(2)));
      return;
    }
    calls.append(line).append("\n");
    if (list.matches()) {
      lists.append("f.start(").append(list.group(1)).append(", StreamFuse.MODE_PULL);\n");
      for (String item : list.group(2).split(", ")) {
        lists.append("f.run(1); answers.add(f.outValue(f.query(StreamFuse.Q_TOTAL) - 1));\n");
        wantInLists.add(Integer.valueOf(item));
      }
      lists.append("answers.add(f.run(1));\n");
      wantInLists.add(0);
    }
  }

  private List<?> answers() throws Exception {
    Path folder = Files.createTempDirectory("readme");
    try {
      Path source = folder.resolve("Example.java");
      Files.writeString(source, "import java.util.*;\nimport java.util.function.*;\n"
          + "public class Example implements Supplier<List<Integer>> {\npublic List<Integer> get() {\n"
          + "List<Integer> answers = new ArrayList<>();\n" + calls + lists + "return answers;\n}\n}\n");
      String classes = System.getProperty("java.class.path");
      Check.due("compiling the example", ToolProvider.getSystemJavaCompiler()
          .run(null, null, null, "-cp", classes, "-d", folder.toString(), source.toString()), 0);
      try (URLClassLoader loader = new URLClassLoader(new URL[] {folder.toUri().toURL()})) {
        return (List<?>) ((Supplier<?>) loader.loadClass("Example").getConstructor().newInstance()).get();
      }
    } finally {
      remove(folder);
    }
  }

  private static void remove(Path folder) throws Exception {
    try (Stream<Path> files = Files.list(folder)) {
      for (Path file : files.toList()) {
        Files.delete(file);
      }
    }
    Files.delete(folder);
  }
}
