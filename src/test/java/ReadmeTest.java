import java.io.IOException;
import java.lang.reflect.Method;
import java.net.URL;
import java.net.URLClassLoader;
import java.nio.file.Files;
import java.nio.file.Path;
import java.util.ArrayList;
import java.util.Arrays;
import java.util.List;
import java.util.Set;
import java.util.TreeSet;
import java.util.regex.Matcher;
import java.util.regex.Pattern;
import java.util.stream.Stream;
import javax.tools.JavaCompiler;
import javax.tools.ToolProvider;

/**
 * What README.md says holds: its example is compiled and gives the answers that it tells, its table has every call of the face
 * and no other with the refusals that it names, and it names every test of the project.
 */
public final class ReadmeTest {
  private static final Pattern ANSWER = Pattern.compile("(game\\.\\w+\\(.*\\)); *// (-?\\d+|[A-Z_]{4,})\\b.*");
  private static final Pattern ROW = Pattern.compile("\\| `(\\w+)\\((.*?)\\)` \\|.*\\|([^|]*)\\|");
  private static final Pattern RANGE = Pattern.compile("(\\w+) \\((\\d+)(?: to |, )(\\d+)\\)");
  private static final Pattern LEAST = Pattern.compile("(\\w+) \\((\\d+) at least\\)");
  private static int checks = 0;
  private static int wrong = 0;

  public static void main(String[] args) throws Exception {
    String page = Files.readString(Path.of("README.md"));
    example(page);
    table(page);
    testsAreNamed(page);
    System.out.println(checks + " things that README.md says: " + wrong + " do not hold");
    if (wrong != 0) {
      System.exit(1);
    }
  }

  /** The example's own lines call this, too, from a class of their own. */
  public static void due(String what, Object got, Object want) {
    checks++;
    if (!got.equals(want)) {
      wrong++;
      System.out.println("README.md: " + what + ": " + got + ", due is " + want);
    }
  }

  private static Set<String> callsOfTheFace() {
    Set<String> names = new TreeSet<>();
    for (Method method : HedgeGame.class.getMethods()) {
      if (method.getDeclaringClass() == HedgeGame.class) {
        names.add(method.getName());
      }
    }
    return names;
  }

  // ---- the example

  private static void example(String page) throws Exception {
    int start = page.indexOf("```java\n");
    int end = page.indexOf("\n```", start + 1);
    if (start < 0 || end < 0) {
      due("there is an example", false, true);
      return;
    }
    String lines = page.substring(start + "```java\n".length(), end);
    Set<String> used = new TreeSet<>();
    StringBuilder code = new StringBuilder("public final class Example {\n  public static void run() {\n");
    for (String line : lines.split("\n")) {
      Matcher call = Pattern.compile("game\\.(\\w+)\\(").matcher(line);
      if (call.find()) {
        used.add(call.group(1));
      }
      code.append(checked(line)).append('\n');
    }
    due("the calls of the example", used, callsOfTheFace());
    runExample(code.append("  }\n}\n").toString());
  }

  /** A line that tells its answer becomes a check of that answer; any other stays as it is. */
  private static String checked(String line) {
    Matcher told = ANSWER.matcher(line);
    if (!told.matches()) {
      return line;
    }
    String answer = told.group(2);
    boolean isNumber = Character.isDigit(answer.charAt(answer.length() - 1));
    String want = isNumber ? answer + "L" : "(long) HedgeGame." + answer;
    return "ReadmeTest.due(\"" + told.group(1) + "\", (long) " + told.group(1) + ", " + want + ");";
  }

  private static void runExample(String code) throws Exception {
    JavaCompiler compiler = ToolProvider.getSystemJavaCompiler();
    if (compiler == null) {
      due("a compiler for the example is here", false, true);
      return;
    }
    Path folder = Files.createTempDirectory("readme");
    Path source = folder.resolve("Example.java");
    Path made = folder.resolve("Example.class");
    try {
      Files.writeString(source, code);
      int result = compiler.run(null, null, null, "-classpath", System.getProperty("java.class.path"), "-d", folder.toString(),
          source.toString());
      due("the example is compiled", result, 0);
      if (result == 0) {
        int before = checks;
        try (URLClassLoader loader = new URLClassLoader(new URL[] {folder.toUri().toURL()}, ReadmeTest.class.getClassLoader())) {
          loader.loadClass("Example").getMethod("run").invoke(null);
        }
        due("the example tells answers", checks > before, true);
      }
    } finally {
      Files.deleteIfExists(made);
      Files.deleteIfExists(source);
      Files.deleteIfExists(folder);
    }
  }

  // ---- the table

  private static void table(String page) throws ReflectiveOperationException {
    List<String> names = new ArrayList<>();
    for (String line : page.split("\n")) {
      Matcher row = ROW.matcher(line);
      if (row.matches()) {
        names.add(row.group(1));
        List<String> parameters = row.group(2).isEmpty() ? List.of() : Arrays.asList(row.group(2).split(", "));
        refusals(row.group(1), parameters, row.group(3));
      }
    }
    due("how many rows the table has", names.size(), callsOfTheFace().size());
    due("the calls of the table", new TreeSet<>(names), callsOfTheFace());
  }

  private static void refusals(String name, List<String> parameters, String told) throws ReflectiveOperationException {
    due(name + " names UNKNOWN", told.contains("`UNKNOWN`"), parameters.contains("branch"));
    if (parameters.contains("branch")) {
      due(name + " of the branch -1", answer(name, parameters, "branch", -1), (long) HedgeGame.UNKNOWN);
      due(name + " of the branch 1 of one", answer(name, parameters, "branch", 1), (long) HedgeGame.UNKNOWN);
    }
    withoutHedge(name, parameters, told);
    Set<String> bounded = new TreeSet<>();
    Matcher range = RANGE.matcher(told);
    while (range.find()) {
      bounded.add(range.group(1));
      bounds(name, parameters, range.group(1), Integer.parseInt(range.group(2)), Integer.parseInt(range.group(3)));
    }
    Matcher least = LEAST.matcher(told);
    while (least.find()) {
      bounded.add(least.group(1));
      bounds(name, parameters, least.group(1), Integer.parseInt(least.group(2)), Integer.MAX_VALUE);
    }
    Set<String> numbers = new TreeSet<>(parameters);
    numbers.removeAll(Set.of("branch", "wins"));
    due(name + " names the bounds of", bounded, numbers);
  }

  /** hedge() itself is refused on a new object for its empty page. */
  private static void withoutHedge(String name, List<String> parameters, String told) throws ReflectiveOperationException {
    boolean isRefused = call(new HedgeGame(), name, parameters, "", 0) == HedgeGame.STATE;
    boolean isTold = told.contains("no hedge") || told.contains("nothing was kept") || told.contains("is not a hedge");
    due(name + " is refused with STATE on a new object", isRefused, isTold);
  }

  private static void bounds(String name, List<String> parameters, String which, int least, int most)
      throws ReflectiveOperationException {
    String call = name + ", " + which + " ";
    due(call + (least - 1), answer(name, parameters, which, least - 1), (long) HedgeGame.OUTSIDE);
    due(call + least, answer(name, parameters, which, least) == HedgeGame.OUTSIDE, false);
    due(call + most, answer(name, parameters, which, most) == HedgeGame.OUTSIDE, false);
    if (most < Integer.MAX_VALUE) {
      due(call + (most + 1), answer(name, parameters, which, most + 1), (long) HedgeGame.OUTSIDE);
    }
  }

  /** What a call answers on a hedge of one branch, if one of its parameters is such and the others are right. */
  private static long answer(String name, List<String> parameters, String which, int value) throws ReflectiveOperationException {
    HedgeGame game = new HedgeGame();
    game.letter('b');
    game.letter('-');
    game.hedge();
    return call(game, name, parameters, which, value);
  }

  private static long call(HedgeGame game, String name, List<String> parameters, String which, int value)
      throws ReflectiveOperationException {
    Class<?>[] types = new Class<?>[parameters.size()];
    Object[] values = new Object[parameters.size()];
    for (int i = 0; i < types.length; i++) {
      String parameter = parameters.get(i);
      types[i] = parameter.equals("wins") ? boolean.class : int.class;
      int right = parameter.equals("code") ? 'b' : parameter.equals("times") ? 1 : 0;
      values[i] = parameter.equals("wins") ? (Object) true : (Object) (parameter.equals(which) ? value : right);
    }
    return ((Number) HedgeGame.class.getMethod(name, types).invoke(game, values)).longValue();
  }

  // ---- the tests

  private static void testsAreNamed(String page) throws IOException {
    Set<String> files = new TreeSet<>();
    try (Stream<Path> found = Files.list(Path.of("src/test/java"))) {
      found.forEach(file -> files.add(file.getFileName().toString().replace(".java", "")));
    }
    Set<String> named = new TreeSet<>();
    Matcher name = Pattern.compile("`(\\w+Test)`").matcher(page);
    while (name.find()) {
      named.add(name.group(1));
    }
    due("the tests that are named", named, files);
    due(".ci/run can be run", Files.isExecutable(Path.of(".ci/run")), true);
    for (String path : new String[] {"src/main/java/HedgeGame.java", "src/test/support/Sentences.java"}) {
      due(path + " is named and is there", page.contains("`" + path + "`") && Files.exists(Path.of(path)), true);
    }
  }
}
