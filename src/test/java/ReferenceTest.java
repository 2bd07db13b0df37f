import java.math.BigInteger;
import java.util.ArrayList;
import java.util.HashMap;
import java.util.List;
import java.util.Map;
import java.util.Random;

/**
 * Random runs of calls on HedgeGame beside a second program, written from the document alone in another way
 * (recursion over lists of branches, whole fractions, a search for the simplest number): every answer must be the same.
 */
public final class ReferenceTest {
  private static final int RUNS = 1500;
  private static int wrong = 0;

  public static void main(String[] args) {
    int calls = 0;
    for (int run = 0; run < RUNS && wrong < 20; run++) {
      calls += run(run);
    }
    System.out.println(calls + " calls in " + RUNS + " random runs: " + wrong + " answers are not as due");
    if (wrong != 0) {
      System.exit(1);
    }
  }

  private static int run(int number) {
    Random random = new Random(1000L + number);
    HedgeGame game = new HedgeGame();
    Second second = new Second();
    StringBuilder told = new StringBuilder();
    int calls = 0;
    int most = 40 + random.nextInt(440);
    while (calls < most) {
      List<int[]> batch = random.nextInt(calls == 0 ? 2 : 30) == 0 ? typing(random) : List.of(any(random));
      for (int[] call : batch) {
        calls++;
        long got = onGame(game, call);
        long want = onSecond(second, call);
        told.append(text(call)).append(' ');
        if (got != want) {
          wrong++;
          System.out.println("run " + number + ": " + told + "answered " + got + ", due is " + want);
          return calls;
        }
      }
    }
    return calls;
  }

  /** Letters of a hedge, sometimes with a slip, and hedge() behind them. */
  private static List<int[]> typing(Random random) {
    List<int[]> calls = new ArrayList<>();
    if (random.nextInt(4) != 0) {
      calls.add(new int[] {2});
    }
    int branches = 1 + random.nextInt(8);
    int style = random.nextInt(4);
    StringBuilder text = new StringBuilder();
    for (int i = 0; i < branches; i++) {
      String kinds = style == 0 ? "wd" : style == 1 ? "bwdt" : "bwdit";
      text.append(i == 0 ? "" : ",").append(kinds.charAt(random.nextInt(kinds.length())));
      boolean ground = i == 0 || random.nextInt(style == 3 ? 2 : 4) == 0;
      text.append(ground ? "-" : String.valueOf(random.nextInt(i)));
    }
    if (random.nextInt(8) == 0) {
      text.setCharAt(random.nextInt(text.length()), "bwdit,-01278x ".charAt(random.nextInt(14)));
    }
    if (random.nextInt(12) == 0) {
      text.append(",b-");
    }
    for (char letter : text.toString().toCharArray()) {
      calls.add(new int[] {1, letter});
    }
    if (random.nextInt(3) == 0) {
      calls.add(new int[] {3});
    }
    calls.add(new int[] {4});
    return calls;
  }

  private static int[] any(Random random) {
    int branch = random.nextInt(40) == 0 ? random.nextInt() : random.nextInt(10) - 1;
    int side = random.nextInt(12) == 0 ? random.nextInt(5) - 2 : random.nextInt(2);
    int kind = random.nextInt(12) == 0 ? random.nextInt(9) - 2 : random.nextInt(5);
    switch (random.nextInt(26)) {
      case 0: return new int[] {1, random.nextInt(4) == 0 ? random.nextInt(160) - 10 : "bwdit,-01234567".charAt(random.nextInt(15))};
      case 1: return new int[] {random.nextInt(4) == 0 ? 2 : 3};
      case 2: return new int[] {6, branch, 6 + random.nextInt(2)};
      case 3: return new int[] {6, branch, random.nextInt(10) - 1};
      case 4: return new int[] {7, branch, kind};
      case 5: case 6: case 7: return new int[] {8, branch};
      case 8: case 9: return new int[] {9, branch};
      case 10: return new int[] {10};
      case 11: return new int[] {11, branch, kind};
      case 12: return new int[] {12, side};
      case 13: return new int[] {13, side};
      case 14: return new int[] {14, side};
      case 15: return new int[] {15};
      case 16: return new int[] {16, branch};
      case 17: return new int[] {17};
      case 18: return new int[] {18, side};
      case 19: return new int[] {19, branch, side, random.nextInt(2)};
      case 20: return new int[] {random.nextInt(5) == 0 ? 20 : 15};
      case 21: return new int[] {21, random.nextInt(44) - 1, random.nextInt(9) == 0 ? -random.nextInt(9) : random.nextInt() & Integer.MAX_VALUE, random.nextInt(5) - 1};
      case 22: return new int[] {22};
      case 23: return new int[] {23};
      case 24: return new int[] {24, random.nextInt(13) - 1};
      default: return new int[] {25};
    }
  }

  private static String text(int[] call) {
    String[] names = {"", "letter", "blank", "fault", "hedge", "", "branch", "as", "cut", "grow", "pass", "graft", "wins",
      "best", "lasts", "worth", "tree", "even", "likely", "see", "forget", "games", "image", "restore", "count", "digest"};
    StringBuilder text = new StringBuilder(names[call[0]]).append('(');
    for (int i = 1; i < call.length; i++) {
      text.append(i == 1 ? "" : ", ").append(call[i]);
    }
    return text.append(')').toString();
  }

  private static long onGame(HedgeGame x, int[] c) {
    switch (c[0]) {
      case 1: return x.letter(c[1]);
      case 2: return x.blank();
      case 3: return x.fault();
      case 4: return x.hedge();
      case 6: return x.branch(c[1], c[2]);
      case 7: return x.as(c[1], c[2]);
      case 8: return x.cut(c[1]);
      case 9: return x.grow(c[1]);
      case 10: return x.pass();
      case 11: return x.graft(c[1], c[2]);
      case 12: return x.wins(c[1]);
      case 13: return x.best(c[1]);
      case 14: return x.lasts(c[1]);
      case 15: return x.worth();
      case 16: return x.tree(c[1]);
      case 17: return x.even();
      case 18: return x.likely(c[1]);
      case 19: return x.see(c[1], c[2], c[3] == 1);
      case 20: return x.forget();
      case 21: return x.games(c[1], c[2], c[3]);
      case 22: return x.image();
      case 23: return x.restore();
      case 24: return x.count(c[1]);
      default: return x.digest();
    }
  }

  private static long onSecond(Second x, int[] c) {
    switch (c[0]) {
      case 1: return x.letter(c[1]);
      case 2: return x.blank();
      case 3: return x.fault();
      case 4: return x.hedge();
      case 6: return x.branch(c[1], c[2]);
      case 7: return x.as(c[1], c[2]);
      case 8: return x.cut(c[1]);
      case 9: return x.grow(c[1]);
      case 10: return x.pass();
      case 11: return x.graft(c[1], c[2]);
      case 12: return x.wins(c[1]);
      case 13: return x.best(c[1]);
      case 14: return x.lasts(c[1]);
      case 15: return x.worth();
      case 16: return x.tree(c[1]);
      case 17: return x.even();
      case 18: return x.likely(c[1]);
      case 19: return x.see(c[1], c[2], c[3] == 1);
      case 20: return x.forget();
      case 21: return x.games(c[1], c[2], c[3]);
      case 22: return x.image();
      case 23: return x.restore();
      case 24: return x.count(c[1]);
      default: return x.digest();
    }
  }

  /** A hedge that somebody looks at: kinds as letters, on what each is, and what stands, as a text of 0 and 1. */
  private static final class Look {
    final String kinds;
    final int[] on;
    final Map<String, Boolean> won = new HashMap<>();
    final Map<String, Integer> length = new HashMap<>();
    final Map<String, Integer> value = new HashMap<>();
    final Map<String, BigInteger[]> chance = new HashMap<>();

    Look(String kinds, int[] on) {
      this.kinds = kinds;
      this.on = on;
    }

    boolean isUnder(int low, int high) {
      for (int at = on[high]; at >= 0; at = on[at]) {
        if (at == low) {
          return true;
        }
      }
      return false;
    }

    boolean may(int side, int branch, String stands) {
      if (stands.charAt(branch) == '0') {
        return false;
      }
      char kind = kinds.charAt(branch);
      if (kind == 't' && side == 0) {
        for (int i = 0; i < on.length; i++) {
          if (on[i] == branch && stands.charAt(i) == '1') {
            return false;
          }
        }
        return true;
      }
      return kind == 'b' || kind == (side == 0 ? 'w' : 'd');
    }

    List<Integer> cuts(int side, String stands) {
      List<Integer> found = new ArrayList<>();
      for (int i = 0; i < on.length; i++) {
        if (may(side, i, stands)) {
          found.add(i);
        }
      }
      return found;
    }

    String after(int branch, String stands) {
      StringBuilder left = new StringBuilder(stands);
      for (int i = 0; i < on.length; i++) {
        if (i == branch || isUnder(branch, i)) {
          left.setCharAt(i, '0');
        }
      }
      return left.toString();
    }

    boolean beginnerWins(int side, String stands) {
      String key = side + stands;
      Boolean known = won.get(key);
      if (known == null) {
        known = false;
        for (int cut : cuts(side, stands)) {
          known |= !beginnerWins(1 - side, after(cut, stands));
        }
        won.put(key, known);
      }
      return known;
    }

    int length(int side, String stands) {
      String key = side + stands;
      Integer known = length.get(key);
      if (known == null) {
        List<Integer> lengths = new ArrayList<>();
        boolean wins = beginnerWins(side, stands);
        for (int cut : cuts(side, stands)) {
          if (!wins || !beginnerWins(1 - side, after(cut, stands))) {
            lengths.add(1 + length(1 - side, after(cut, stands)));
          }
        }
        lengths.sort(null);
        known = lengths.isEmpty() ? 0 : wins ? lengths.get(0) : lengths.get(lengths.size() - 1);
        length.put(key, known);
      }
      return known;
    }

    int best(int side, String stands) {
      int found = -1;
      for (int cut : cuts(side, stands)) {
        if (!beginnerWins(1 - side, after(cut, stands))) {
          return cut;
        }
        if (found < 0 || length(1 - side, after(cut, stands)) > length(1 - side, after(found, stands))) {
          found = cut;
        }
      }
      return found;
    }

    int value(String stands) {
      Integer known = value.get(stands);
      if (known == null) {
        known = findValue(stands);
        value.put(stands, known);
      }
      return known;
    }

    private int findValue(String stands) {
      List<Integer> whites = new ArrayList<>();
      List<Integer> darks = new ArrayList<>();
      for (int cut : cuts(0, stands)) {
        whites.add(value(after(cut, stands)));
      }
      for (int cut : cuts(1, stands)) {
        darks.add(value(after(cut, stands)));
      }
      if (whites.contains(-9999) || darks.contains(-9999)) {
        return -9999;
      }
      for (int white : whites) {
        for (int dark : darks) {
          if (white >= dark) {
            return -9999;
          }
        }
      }
      for (int step = 256; step >= 1; step /= 2) {
        for (int far = 0; far <= 20 * 256; far += step) {
          for (int number : new int[] {far, -far}) {
            boolean fits = true;
            for (int white : whites) {
              fits &= white < number;
            }
            for (int dark : darks) {
              fits &= number < dark;
            }
            if (fits) {
              return number;
            }
          }
        }
      }
      throw new IllegalStateException("no number between");
    }

    BigInteger[] chance(int side, String stands) {
      String key = side + stands;
      BigInteger[] known = chance.get(key);
      if (known == null) {
        List<Integer> cuts = cuts(side, stands);
        BigInteger above = BigInteger.valueOf(cuts.isEmpty() ? side : 0);
        BigInteger below = BigInteger.ONE;
        for (int cut : cuts) {
          BigInteger[] then = chance(1 - side, after(cut, stands));
          above = above.multiply(then[1]).add(then[0].multiply(below));
          below = below.multiply(then[1]);
          BigInteger shared = above.gcd(below);
          above = above.divide(shared);
          below = below.divide(shared);
        }
        if (!cuts.isEmpty()) {
          below = below.multiply(BigInteger.valueOf(cuts.size()));
        }
        known = new BigInteger[] {above, below};
        chance.put(key, known);
      }
      return known;
    }
  }

  /** The second program. */
  private static final class Second {
    private static final String LETTERS = "bwdit";
    private String page = "";
    private String kinds = "";
    private int[] on = {};
    private String stands = "";
    private int turn = 0;
    private int cuts = 0;
    private List<int[]> seen = new ArrayList<>();
    private String[] imageTexts = null;
    private int[] imageNumbers = null;
    private List<int[]> imageSeen = null;
    private int reads = 0;
    private int evens = 0;
    private final Map<String, Look> looks = new HashMap<>();

    int letter(int code) {
      if (code < 32 || code > 126) {
        return -102;
      }
      if (page.length() == 26) {
        return -104;
      }
      page += (char) code;
      return page.length();
    }

    int blank() {
      int had = page.length();
      page = "";
      return had;
    }

    /** Whether a hedge begins so: by trying to go on from each beginning. */
    private boolean begins(String text) {
      String[] parts = text.split(",", -1);
      if (parts.length > 8) {
        return false;
      }
      for (int i = 0; i < parts.length; i++) {
        boolean last = i == parts.length - 1;
        String whole = "[bwdit]" + (i == 0 ? "-" : "[-0-" + (i - 1) + "]");
        if (!parts[i].matches(whole) && !(last && parts[i].matches("[bwdit]?"))) {
          return false;
        }
      }
      return true;
    }

    int fault() {
      int good = 0;
      while (good < page.length() && begins(page.substring(0, good + 1))) {
        good++;
      }
      return good;
    }

    int hedge() {
      if (fault() != page.length() || page.isEmpty() || page.endsWith(",") || page.matches("(.*,)?[a-z]")) {
        return -103;
      }
      String[] parts = page.split(",");
      kinds = "";
      stands = "";
      on = new int[parts.length];
      for (int i = 0; i < parts.length; i++) {
        kinds += parts[i].charAt(0);
        stands += '1';
        on[i] = parts[i].charAt(1) == '-' ? -1 : Integer.parseInt(parts[i].substring(1));
      }
      page = "";
      turn = 0;
      cuts = 0;
      seen.clear();
      imageTexts = null;
      reads++;
      looks.clear();
      return on.length;
    }

    private Look look(String ofKinds) {
      return looks.computeIfAbsent(ofKinds, k -> new Look(k, on));
    }

    private Look look() {
      return look(kinds);
    }

    private Look lookWith(int branch, int kind) {
      return look(kinds.substring(0, branch) + LETTERS.charAt(kind) + kinds.substring(branch + 1));
    }

    private boolean unknown(int branch) {
      return branch < 0 || branch >= on.length;
    }

    private int sorts(int branch) {
      int found = 0;
      for (int kind = 0; kind < 5; kind++) {
        boolean fits = true;
        for (int[] one : seen) {
          if (one[0] == branch) {
            fits &= lookWith(branch, kind).beginnerWins(one[1], stands) == (one[2] == 1);
          }
        }
        found += fits ? 1 << kind : 0;
      }
      return found;
    }

    private int let(int branch) {
      int sorts = sorts(branch);
      int[] worst = new int[2];
      for (int side = 0; side < 2; side++) {
        int[] left = new int[2];
        for (int kind = 0; kind < 5; kind++) {
          if ((sorts & 1 << kind) != 0) {
            left[lookWith(branch, kind).beginnerWins(side, stands) ? 1 : 0]++;
          }
        }
        worst[side] = Math.max(left[0], left[1]);
      }
      return sorts == 0 ? -1 : worst[0] <= worst[1] ? 0 : 1;
    }

    int branch(int branch, int what) {
      if (unknown(branch)) {
        return -101;
      }
      switch (what) {
        case 0: return LETTERS.indexOf(kinds.charAt(branch));
        case 1: return on[branch];
        case 2: return stands.charAt(branch) - '0';
        case 3: return look().may(0, branch, stands) ? 1 : 0;
        case 4: return look().may(1, branch, stands) ? 1 : 0;
        case 5:
          int bits = 0;
          for (int i = 0; i < on.length; i++) {
            bits += look().isUnder(branch, i) ? 1 << i : 0;
          }
          return bits;
        case 6: return sorts(branch);
        case 7: return let(branch);
        default: return -102;
      }
    }

    int as(int branch, int kind) {
      if (unknown(branch)) {
        return -101;
      }
      if (kind < 0 || kind > 4) {
        return -102;
      }
      char is = kinds.charAt(branch);
      return kind == 0 || is == LETTERS.charAt(kind) || kind == 1 && is == 't' ? branch : -1;
    }

    private int standing() {
      return stands.replace("0", "").length();
    }

    int cut(int branch) {
      if (unknown(branch)) {
        return -101;
      }
      if (!look().may(turn, branch, stands)) {
        return -103;
      }
      if (cuts == 999) {
        return -104;
      }
      int had = standing();
      stands = look().after(branch, stands);
      turn = 1 - turn;
      cuts++;
      return had - standing();
    }

    int grow(int branch) {
      if (unknown(branch)) {
        return -101;
      }
      if (stands.charAt(branch) == '1' || on[branch] >= 0 && stands.charAt(on[branch]) == '0') {
        return -103;
      }
      stands = stands.substring(0, branch) + "1" + stands.substring(branch + 1);
      return standing();
    }

    int pass() {
      if (on.length == 0) {
        return -103;
      }
      turn = 1 - turn;
      return 1 - turn;
    }

    int graft(int branch, int kind) {
      if (unknown(branch)) {
        return -101;
      }
      if (kind < 0 || kind > 4) {
        return -102;
      }
      int was = LETTERS.indexOf(kinds.charAt(branch));
      kinds = lookWith(branch, kind).kinds;
      return was;
    }

    private int refusal(int begins) {
      return begins < 0 || begins > 1 ? -102 : on.length == 0 ? -103 : 0;
    }

    int wins(int begins) {
      return refusal(begins) != 0 ? refusal(begins) : look().beginnerWins(begins, stands) ? begins : 1 - begins;
    }

    int best(int begins) {
      return refusal(begins) != 0 ? refusal(begins) : look().best(begins, stands);
    }

    int lasts(int begins) {
      return refusal(begins) != 0 ? refusal(begins) : look().length(begins, stands);
    }

    int worth() {
      return on.length == 0 ? -103 : look().value(stands);
    }

    int tree(int branch) {
      if (unknown(branch)) {
        return -101;
      }
      if (on[branch] >= 0) {
        return -103;
      }
      StringBuilder alone = new StringBuilder(stands);
      for (int i = 0; i < on.length; i++) {
        if (i != branch && !look().isUnder(branch, i)) {
          alone.setCharAt(i, '0');
        }
      }
      return look().value(alone.toString());
    }

    private boolean isEven(Look look) {
      return !look.beginnerWins(0, stands) && !look.beginnerWins(1, stands);
    }

    int even() {
      if (on.length == 0 || evens == 30) {
        return -103;
      }
      evens++;
      if (isEven(look())) {
        return -2;
      }
      for (int told = 0; told < 10 * on.length; told++) {
        if (told % 10 < 5 && LETTERS.charAt(told % 10) != kinds.charAt(told / 10) && isEven(lookWith(told / 10, told % 10))) {
          return told;
        }
      }
      return -1;
    }

    int likely(int begins) {
      if (refusal(begins) != 0) {
        return refusal(begins);
      }
      BigInteger[] chance = look().chance(begins, stands);
      return chance[0].multiply(BigInteger.valueOf(1000000)).divide(chance[1]).intValueExact();
    }

    int see(int branch, int begins, boolean wins) {
      if (unknown(branch)) {
        return -101;
      }
      if (begins < 0 || begins > 1) {
        return -102;
      }
      if (seen.size() == 6) {
        return -104;
      }
      seen.add(new int[] {branch, begins, wins ? 1 : 0});
      return seen.size();
    }

    int forget() {
      int was = seen.size();
      seen.clear();
      return was;
    }

    int games(int times, int seed, int what) {
      if (times < 1 || times > 40 || seed < 0 || what < 0 || what > 2) {
        return -102;
      }
      if (on.length == 0) {
        return -103;
      }
      BigInteger at = BigInteger.valueOf(seed);
      int whites = 0;
      int done = 0;
      for (int game = 0; game < times; game++) {
        int side = game % 2;
        String left = stands;
        while (!look().cuts(side, left).isEmpty()) {
          List<Integer> can = look().cuts(side, left);
          at = at.multiply(BigInteger.valueOf(1103515245)).add(BigInteger.valueOf(12345)).mod(BigInteger.ONE.shiftLeft(31));
          left = look().after(can.get(at.divide(BigInteger.valueOf(65536)).intValueExact() % can.size()), left);
          done++;
          side = 1 - side;
        }
        whites += side;
      }
      return what == 0 ? whites : what == 1 ? done : at.intValueExact();
    }

    int image() {
      if (on.length == 0) {
        return -103;
      }
      imageTexts = new String[] {kinds, stands};
      imageNumbers = new int[] {turn, cuts};
      imageSeen = new ArrayList<>(seen);
      return cuts;
    }

    int restore() {
      if (imageTexts == null) {
        return -103;
      }
      kinds = imageTexts[0];
      stands = imageTexts[1];
      turn = imageNumbers[0];
      cuts = imageNumbers[1];
      seen = new ArrayList<>(imageSeen);
      return cuts;
    }

    int count(int what) {
      switch (what) {
        case 0: return on.length;
        case 1: return standing();
        case 2: return turn;
        case 3: return cuts;
        case 4: return look().cuts(0, stands).size();
        case 5: return look().cuts(1, stands).size();
        case 6:
          int ground = 0;
          for (int at : on) {
            ground += at < 0 ? 1 : 0;
          }
          return ground;
        case 7: return seen.size();
        case 8: return page.length();
        case 9: return reads;
        case 10: return evens;
        default: return -102;
      }
    }

    long digest() {
      List<Long> numbers = new ArrayList<>();
      for (int branch = 0; branch < on.length; branch++) {
        for (int what = 0; what < 8; what++) {
          numbers.add((long) branch(branch, what));
        }
      }
      if (on.length > 0) {
        for (int side = 0; side < 2; side++) {
          numbers.add((long) wins(side));
          numbers.add((long) best(side));
          numbers.add((long) lasts(side));
          numbers.add((long) likely(side));
        }
        numbers.add((long) worth());
      }
      for (int branch = 0; branch < on.length; branch++) {
        if (on[branch] < 0) {
          numbers.add((long) tree(branch));
        }
      }
      for (char letter : page.toCharArray()) {
        numbers.add((long) letter);
      }
      for (int what = 0; what < 11; what++) {
        numbers.add((long) count(what));
      }
      long h = 1283;
      for (long number : numbers) {
        h = 31 * h + number;
      }
      return h;
    }
  }
}
