import java.util.function.LongSupplier;

/**
 * What the tests of single sentences share: each test bears the words of the document that it looks at, and what is wrong is told
 * with these words. A test that throws has failed, too: no call of the class may.
 */
final class Sentences {
  static final int NONE = -1, UNKNOWN = -101, OUTSIDE = -102, STATE = -103, FULL = -104, NO_WORTH = -9999;
  static final int MIN = Integer.MIN_VALUE, MAX = Integer.MAX_VALUE;
  static final int[] NO_SIDES = {-1, 2, MIN, MAX};
  static final int[] NO_KINDS = {-1, 5, MIN, MAX};

  private static String place = "";
  private static int tests = 0;
  private static int checks = 0;
  private static int wrong = 0;

  private Sentences() {
  }

  static void test(String where, String words, Runnable body) {
    tests++;
    place = where + " '" + words + "'";
    int before = checks;
    try {
      body.run();
    } catch (RuntimeException thrown) {
      tell(thrown + " was thrown");
    }
    if (checks == before) {
      tell("nothing was looked at");
    }
  }

  static void end() {
    System.out.println(tests + " sentences, " + checks + " checks: " + wrong + " are not as due");
    if (wrong != 0) {
      System.exit(1);
    }
  }

  static void due(String call, long got, long want) {
    checks++;
    if (got != want) {
      tell(call + " answered " + got + ", due is " + want);
    }
  }

  private static void tell(String what) {
    wrong++;
    System.out.println(place + ": " + what);
  }

  /** A refused call answers so, and leaves all that the digest tells as it was. */
  static void refused(HedgeGame x, String call, LongSupplier made, int want) {
    long before = x.digest();
    due(call, made.getAsLong(), want);
    due("digest() behind the refused " + call, x.digest(), before);
  }

  static HedgeGame type(HedgeGame x, String text) {
    for (int i = 0; i < text.length(); i++) {
      x.letter(text.charAt(i));
    }
    return x;
  }

  static HedgeGame page(String text) {
    return type(new HedgeGame(), text);
  }

  static HedgeGame of(String text) {
    HedgeGame x = page(text);
    due("hedge() of " + text, x.hedge(), (text.length() + 1) / 3);
    return x;
  }

  /** So many branches of one kind on the ground. */
  static String onGround(char kind, int number) {
    StringBuilder text = new StringBuilder();
    for (int i = 0; i < number; i++) {
      text.append(i == 0 ? "" : ",").append(kind).append('-');
    }
    return text.toString();
  }

  /** The kinds one on another, the first one on the ground. */
  static String chain(String kinds) {
    StringBuilder text = new StringBuilder();
    for (int i = 0; i < kinds.length(); i++) {
      text.append(i == 0 ? "" : ",").append(kinds.charAt(i)).append(i == 0 ? "-" : String.valueOf(i - 1));
    }
    return text.toString();
  }

  static void worthIs(String text, int want) {
    due("worth() of " + text, of(text).worth(), want);
  }
}
