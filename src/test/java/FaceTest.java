import java.io.IOException;
import java.lang.reflect.Constructor;
import java.lang.reflect.Field;
import java.lang.reflect.Method;
import java.lang.reflect.Modifier;
import java.nio.file.Files;
import java.nio.file.Path;
import java.util.ArrayList;
import java.util.List;
import java.util.Set;
import java.util.TreeSet;

/** The class keeps to the face that the document tells, and to those rules of LANGUAGE.md that can be seen from outside. */
public final class FaceTest {
  private static final Path SOURCE = Path.of("src/main/java/HedgeGame.java");
  private static final String FACE = "HedgeGame() as(int,int):int best(int):int blank():int branch(int,int):int count(int):int "
      + "cut(int):int digest():long even():int fault():int forget():int games(int,int,int):int graft(int,int):int "
      + "grow(int):int hedge():int image():int lasts(int):int letter(int):int likely(int):int pass():int restore():int "
      + "see(int,int,boolean):int tree(int):int wins(int):int worth():int";
  private static int wrong = 0;

  public static void main(String[] args) throws IOException, IllegalAccessException {
    check("the public face", face(), FACE);
    check("the constants", constants(), "NONE=-1 UNKNOWN=-101 OUTSIDE=-102 STATE=-103 FULL=-104 NO_WORTH=-9999");
    int modifiers = HedgeGame.class.getModifiers();
    check("public and final", Modifier.isPublic(modifiers) && Modifier.isFinal(modifiers), true);
    membersArePrivate();
    staticFieldsAreFinal(HedgeGame.class);
    for (Class<?> inside : HedgeGame.class.getDeclaredClasses()) {
      int of = inside.getModifiers();
      check(inside + " is static and not public", Modifier.isStatic(of) && !Modifier.isPublic(of) && !Modifier.isProtected(of), true);
      staticFieldsAreFinal(inside);
    }
    sourceKeepsToTheRules();
    System.out.println(wrong + " breaches of the face and the language were found");
    if (wrong != 0) {
      System.exit(1);
    }
  }

  private static void check(String what, Object got, Object want) {
    if (!got.equals(want)) {
      wrong++;
      System.out.println(what + ": " + got + ", due is " + want);
    }
  }

  private static String parameters(Class<?>[] types) {
    List<String> names = new ArrayList<>();
    for (Class<?> type : types) {
      names.add(type.getName());
    }
    return "(" + String.join(",", names) + ")";
  }

  private static String face() {
    Set<String> found = new TreeSet<>();
    for (Constructor<?> constructor : HedgeGame.class.getDeclaredConstructors()) {
      if (!Modifier.isPrivate(constructor.getModifiers())) {
        found.add("HedgeGame" + parameters(constructor.getParameterTypes()));
      }
    }
    for (Method method : HedgeGame.class.getDeclaredMethods()) {
      if (Modifier.isPublic(method.getModifiers())) {
        found.add(method.getName() + parameters(method.getParameterTypes()) + ":" + method.getReturnType().getName());
      }
    }
    return String.join(" ", found);
  }

  private static String constants() throws IllegalAccessException {
    List<String> found = new ArrayList<>();
    for (Field field : HedgeGame.class.getDeclaredFields()) {
      if (Modifier.isPublic(field.getModifiers())) {
        found.add(field.getName() + "=" + field.getInt(null));
      }
    }
    return String.join(" ", found);
  }

  private static void membersArePrivate() {
    Set<String> open = new TreeSet<>();
    for (Method method : HedgeGame.class.getDeclaredMethods()) {
      if (Modifier.isPublic(method.getModifiers())) {
        open.add(method.getName());
      }
    }
    for (Method method : HedgeGame.class.getDeclaredMethods()) {
      if (!Modifier.isPublic(method.getModifiers())) {
        check(method + " is private", Modifier.isPrivate(method.getModifiers()), true);
        check(method + " has a name of its own", open.contains(method.getName()), false);
      }
    }
    for (Class<?> inside : HedgeGame.class.getDeclaredClasses()) {
      for (Method method : inside.getDeclaredMethods()) {
        check(method + " has a name of its own", open.contains(method.getName()), false);
      }
      check(inside + " has twenty fields at most", inside.getDeclaredFields().length <= 20, true);
    }
    for (Field field : HedgeGame.class.getDeclaredFields()) {
      int of = field.getModifiers();
      check(field + " is private", Modifier.isPublic(of) && Modifier.isStatic(of) || Modifier.isPrivate(of), true);
    }
  }

  private static void staticFieldsAreFinal(Class<?> type) {
    for (Field field : type.getDeclaredFields()) {
      if (Modifier.isStatic(field.getModifiers())) {
        check(field + " is final", Modifier.isFinal(field.getModifiers()), true);
      }
    }
  }

  private static void sourceKeepsToTheRules() throws IOException {
    String source = Files.readString(SOURCE);
    String code = source.replaceAll("(?s)/\\*.*?\\*/", "").replaceAll("//[^\n]*", "");
    for (String word : new String[] {"import ", "package ", "->", "::", "throw", "catch", "finally", "synchronized", "assert ",
      "static {", "while (true)", "for (;;)", "Exact(", "instanceof", "double", "float", "new Thread", "System.out", "@"}) {
      check("'" + word.trim() + "' stands in the code", code.contains(word), false);
    }
    for (int i = 0; i < source.length(); i++) {
      if (source.charAt(i) > 126) {
        check("a sign above 126 at " + i, true, false);
      }
    }
    check("twelve classes at most", code.split("\\bclass [A-Z]", -1).length - 1 <= 12, true);
    methodsAreShort(code.split("\n"));
  }

  /** A method is from its opening line to the closing brace of the same indent. */
  private static void methodsAreShort(String[] lines) {
    for (int i = 0; i < lines.length; i++) {
      String line = lines[i];
      if (line.endsWith(") {") && line.matches(" {4}( {4})?[A-Za-z].*") && !line.matches(" *(if|for|switch|while) .*")) {
        String indent = line.substring(0, line.length() - line.trim().length());
        int end = i;
        while (end < lines.length && !lines[end].equals(indent + "}")) {
          end++;
        }
        check("line " + i + " begins a method of sixty lines at most", end - i <= 60, true);
      }
    }
  }
}
