/** The promises of the document one by one: ordinary inputs, the edges that it names, and each refusal. */
public final class PromiseTest {
  private static final int NONE = -1, UNKNOWN = -101, OUTSIDE = -102, STATE = -103, FULL = -104, NO_WORTH = -9999;
  private static final String EIGHT_ON_THE_GROUND = "b-,b-,b-,b-,b-,b-,b-,b-";
  private static final int[] NOT_SIDES = {-1, 2, Integer.MIN_VALUE, Integer.MAX_VALUE};
  private static int checks = 0;
  private static int wrong = 0;

  public static void main(String[] args) {
    newObject();
    letter();
    blank();
    fault();
    hedge();
    branch();
    as();
    cut();
    grow();
    pass();
    graft();
    wins();
    best();
    lasts();
    worth();
    tree();
    even();
    likely();
    see();
    forget();
    games();
    image();
    restore();
    count();
    digest();
    System.out.println(checks + " checks of promises 1 to 25: " + wrong + " answers are not as due");
    if (wrong != 0) {
      System.exit(1);
    }
  }

  private static void due(int promise, String call, long got, long want) {
    checks++;
    if (got != want) {
      wrong++;
      System.out.println("promise " + promise + ": " + call + " answered " + got + ", due is " + want);
    }
  }

  /** For a call that refuses: it answers so, and all that the digest tells is as it was. */
  private static void refused(int promise, String call, HedgeGame x, long before, long got, long want) {
    due(promise, call, got, want);
    due(promise, call + ", then digest()", x.digest(), before);
  }

  private static HedgeGame type(HedgeGame x, String text) {
    for (int i = 0; i < text.length(); i++) {
      x.letter(text.charAt(i));
    }
    return x;
  }

  private static HedgeGame page(String text) {
    return type(new HedgeGame(), text);
  }

  private static HedgeGame of(String text) {
    HedgeGame x = page(text);
    due(5, "hedge() of " + text, x.hedge(), (text.length() + 1) / 3);
    return x;
  }

  private static void newObject() {
    HedgeGame x = new HedgeGame();
    for (int what = 0; what <= 10; what++) {
      due(1, "count(" + what + ")", x.count(what), 0);
    }
    due(1, "branch(0, 0)", x.branch(0, 0), UNKNOWN);
    due(1, "as(0, 0)", x.as(0, 0), UNKNOWN);
    due(1, "cut(0)", x.cut(0), UNKNOWN);
    due(1, "grow(0)", x.grow(0), UNKNOWN);
    due(1, "pass()", x.pass(), STATE);
    due(1, "graft(0, 0)", x.graft(0, 0), UNKNOWN);
    due(1, "tree(0)", x.tree(0), UNKNOWN);
    due(1, "see(0, 0, true)", x.see(0, 0, true), UNKNOWN);
    due(1, "forget()", x.forget(), 0);
    due(1, "blank()", x.blank(), 0);
    due(1, "fault()", x.fault(), 0);
    due(1, "hedge()", x.hedge(), STATE);
    due(1, "worth()", x.worth(), STATE);
    due(1, "even()", x.even(), STATE);
    due(1, "image()", x.image(), STATE);
    due(1, "restore()", x.restore(), STATE);
    for (int side = 0; side < 2; side++) {
      due(1, "wins", x.wins(side), STATE);
      due(1, "best", x.best(side), STATE);
      due(1, "lasts", x.lasts(side), STATE);
      due(1, "likely", x.likely(side), STATE);
    }
    due(1, "games(1, 0, 0)", x.games(1, 0, 0), STATE);
    due(1, "count(10) after even() was refused", x.count(10), 0);
  }

  private static void letter() {
    HedgeGame x = new HedgeGame();
    for (int code : new int[] {31, 127, -1, 0, 200, 65536 + 98, Integer.MIN_VALUE, Integer.MAX_VALUE}) {
      refused(2, "letter(" + code + ")", x, x.digest(), x.letter(code), OUTSIDE);
    }
    due(2, "letter(32)", x.letter(32), 1);
    due(2, "letter(126)", x.letter(126), 2);
    for (int i = 3; i <= 26; i++) {
      due(2, "letter(98)", x.letter(98), i);
    }
    refused(2, "letter(98), the 27th", x, x.digest(), x.letter(98), FULL);
    refused(2, "letter(127) on a full page", x, x.digest(), x.letter(127), OUTSIDE);
    due(2, "count(8)", x.count(8), 26);
  }

  private static void blank() {
    HedgeGame x = page("b-,xyz");
    due(3, "blank()", x.blank(), 6);
    due(3, "count(8)", x.count(8), 0);
    due(3, "blank() again", x.blank(), 0);
    due(3, "letter('w')", x.letter('w'), 1);
    due(3, "fault()", x.fault(), 1);
    type(x, "-");
    due(3, "hedge()", x.hedge(), 1);
    due(3, "branch(0, 0)", x.branch(0, 0), 1);
    due(3, "blank() with a HEDGE", x.blank(), 0);
    due(3, "count(0) stays", x.count(0), 1);
  }

  private static void fault() {
    String[] texts = {"", "b", "b-", "b-,", "b-,w", "b-,w0,", "x", "B", ",", "-", "0", " ", "b0", "b,", "bb", "b--", "b-b",
      "b-0", "b-,,", "b-,-", "b-,w1", "b-,w2", "b-,w9", "b-,w,", "b-,w0,d1,i2,t3,b4,w5,d6", "b-,w0,d1,i2,t3,b4,w5,d7",
      "b-,w0,d1,i2,t3,b4,w5,d8", EIGHT_ON_THE_GROUND, EIGHT_ON_THE_GROUND + ",", EIGHT_ON_THE_GROUND + ",b",
      EIGHT_ON_THE_GROUND + ",b-", "x-,b-", "b-,b-x,b-"};
    int[] places = {0, 1, 2, 3, 4, 6, 0, 0, 0, 0, 0, 0, 1, 1, 1, 2, 2,
      2, 3, 3, 4, 4, 4, 4, 23, 22,
      22, 23, 23, 23,
      23, 0, 5};
    for (int i = 0; i < texts.length; i++) {
      HedgeGame x = page(texts[i]);
      due(4, "fault() of " + texts[i], x.fault(), places[i]);
      due(4, "count(8) stays", x.count(8), texts[i].length());
    }
    for (int code = 32; code < 127; code++) {
      HedgeGame x = new HedgeGame();
      x.letter(code);
      due(4, "fault() of the letter " + code, x.fault(), "bwdit".indexOf(code) >= 0 ? 1 : 0);
      x = page("b-,b-,b");
      x.letter(code);
      due(4, "fault() with the letter " + code, x.fault(), "-01".indexOf(code) >= 0 ? 8 : 7);
      x = page("b-");
      x.letter(code);
      due(4, "fault() with the sign " + code, x.fault(), code == ',' ? 3 : 2);
    }
  }

  private static void hedge() {
    for (String text : new String[] {"", "b", "b-,", "b-,w", "b0", "b-,w1", "b-w", "x-", EIGHT_ON_THE_GROUND + ",",
      EIGHT_ON_THE_GROUND + ",b-"}) {
      HedgeGame x = of("w-,d0");
      type(x, text);
      refused(5, "hedge() of " + text, x, x.digest(), x.hedge(), STATE);
      due(5, "count(8)", x.count(8), text.length());
    }
    HedgeGame x = of("b-,w0,d1,i-,t3");
    int[] kinds = {0, 1, 2, 3, 4};
    int[] on = {NONE, 0, 1, NONE, 3};
    for (int i = 0; i < 5; i++) {
      due(5, "branch(" + i + ", 0)", x.branch(i, 0), kinds[i]);
      due(5, "branch(" + i + ", 1)", x.branch(i, 1), on[i]);
      due(5, "branch(" + i + ", 2)", x.branch(i, 2), 1);
    }
    due(5, "the page is empty", x.blank(), 0);
    x.image();
    x.cut(1);
    x.see(0, 0, true);
    x.even();
    type(x, "d-,w-");
    due(5, "another hedge()", x.hedge(), 2);
    int[] counts = {2, 2, 0, 0, 1, 1, 2, 0, 0, 2, 1};
    for (int what = 0; what < counts.length; what++) {
      due(5, "count(" + what + ") of another", x.count(what), counts[what]);
    }
    due(5, "branch(2, 0) is gone", x.branch(2, 0), UNKNOWN);
    due(5, "branch(0, 6) of another", x.branch(0, 6), 31);
    due(5, "worth() of another", x.worth(), 0);
    due(5, "restore() with another", x.restore(), STATE);
    due(5, "eight", of(EIGHT_ON_THE_GROUND).count(6), 8);
  }

  private static void branch() {
    HedgeGame x = of("w-,b0,t1,d0,i-,t4,b5,w1");
    int[] above = {142, 132, 0, 0, 96, 64, 0, 0};
    int[] white = {1, 1, 1, 0, 0, 0, 1, 1};
    int[] dark = {0, 1, 0, 1, 0, 0, 1, 0};
    for (int i = 0; i < 8; i++) {
      due(6, "branch(" + i + ", 3)", x.branch(i, 3), white[i]);
      due(6, "branch(" + i + ", 4)", x.branch(i, 4), dark[i]);
      due(6, "branch(" + i + ", 5)", x.branch(i, 5), above[i]);
      due(6, "branch(" + i + ", 6)", x.branch(i, 6), 31);
    }
    x.cut(6);
    due(6, "branch(6, 2), cut", x.branch(6, 2), 0);
    due(6, "branch(6, 3), cut", x.branch(6, 3), 0);
    due(6, "branch(6, 4), cut", x.branch(6, 4), 0);
    due(6, "branch(5, 3), bare", x.branch(5, 3), 1);
    due(6, "branch(5, 4), bare", x.branch(5, 4), 0);
    due(6, "branch(5, 5) stays", x.branch(5, 5), 64);
    x.cut(1);
    due(6, "branch(2, 2), fallen", x.branch(2, 2), 0);
    due(6, "branch(7, 3), fallen", x.branch(7, 3), 0);
    for (int bad : new int[] {-1, 8, Integer.MIN_VALUE, Integer.MAX_VALUE}) {
      refused(6, "branch(" + bad + ", 0)", x, x.digest(), x.branch(bad, 0), UNKNOWN);
      refused(6, "branch(0, " + bad + ")", x, x.digest(), x.branch(0, bad), OUTSIDE);
      refused(6, "branch(" + bad + ", " + bad + ")", x, x.digest(), x.branch(bad, bad), UNKNOWN);
    }
    sortsAndLet();
  }

  private static void sortsAndLet() {
    due(6, "LET, asked ahead of all else: beside DARK", of("w-,d-").branch(0, 7), 1);
    HedgeGame x = of("w-");
    due(6, "SORTS, nothing SEEN", x.branch(0, 6), 31);
    due(6, "LET, nothing SEEN: like ones", x.branch(0, 7), 0);
    x.see(0, 0, true);
    due(6, "SORTS, WHITE wins", x.branch(0, 6), 19);
    due(6, "LET, WHITE wins", x.branch(0, 7), 1);
    x.see(0, 1, true);
    due(6, "SORTS, who begins wins", x.branch(0, 6), 1);
    due(6, "LET, one left", x.branch(0, 7), 0);
    x.see(0, 0, false);
    due(6, "SORTS, none", x.branch(0, 6), 0);
    due(6, "LET, none", x.branch(0, 7), NONE);
    x.forget();
    x.see(0, 0, false);
    due(6, "SORTS, WHITE does not win", x.branch(0, 6), 12);
    due(6, "LET, WHITE does not win", x.branch(0, 7), 1);
    x.forget();
    x.see(0, 1, false);
    due(6, "SORTS, DARK does not win", x.branch(0, 6), 26);
    due(6, "LET, DARK does not win", x.branch(0, 7), 0);
    x.graft(0, 2);
    due(6, "SORTS, whatever its KIND", x.branch(0, 6), 26);

    HedgeGame y = of("w-,w-");
    y.see(0, 0, true);
    due(6, "SORTS beside WHITE", y.branch(0, 6), 27);
    due(6, "SORTS of what is not SEEN", y.branch(1, 6), 31);
    y.cut(1);
    due(6, "SORTS with what STANDS at the time of asking", y.branch(0, 6), 19);
    y.grow(1);
    y.graft(1, 2);
    due(6, "SORTS beside DARK: WHITE, beginning, wins by no KIND", y.branch(0, 6), 0);
    y.pass();
    y.cut(0);
    y.forget();
    y.see(0, 1, true);
    due(6, "SORTS of what does not STAND: it is all the same", y.branch(0, 6), 31);
    y.see(0, 0, true);
    due(6, "SORTS of what does not STAND: none", y.branch(0, 6), 0);
  }

  private static void as() {
    HedgeGame x = of("b-,w-,d-,i-,t-");
    int[] such = {31, 18, 4, 8, 16};
    for (int kind = 0; kind < 5; kind++) {
      for (int i = 0; i < 5; i++) {
        due(7, "as(" + i + ", " + kind + ")", x.as(i, kind), (such[kind] >> i & 1) != 0 ? i : NONE);
      }
    }
    x.cut(4);
    due(7, "as(4, 1), cut", x.as(4, 1), 4);
    x.graft(4, 3);
    due(7, "as(4, 1), IRON now", x.as(4, 1), NONE);
    due(7, "as(4, 3), IRON now", x.as(4, 3), 4);
    for (int bad : new int[] {-1, 5, Integer.MIN_VALUE, Integer.MAX_VALUE}) {
      refused(7, "as(" + bad + ", 0)", x, x.digest(), x.as(bad, 0), UNKNOWN);
      refused(7, "as(0, " + bad + ")", x, x.digest(), x.as(0, bad), OUTSIDE);
      refused(7, "as(" + bad + ", " + bad + ")", x, x.digest(), x.as(bad, bad), UNKNOWN);
    }
  }

  private static void cut() {
    HedgeGame x = of("b-,w0,d1,t0,i-,t4,b5");
    refused(8, "cut(2), DARK", x, x.digest(), x.cut(2), STATE);
    refused(8, "cut(4), IRON", x, x.digest(), x.cut(4), STATE);
    refused(8, "cut(5), not bare", x, x.digest(), x.cut(5), STATE);
    refused(8, "cut(-1)", x, x.digest(), x.cut(-1), UNKNOWN);
    refused(8, "cut(7)", x, x.digest(), x.cut(7), UNKNOWN);
    refused(8, "cut(MIN)", x, x.digest(), x.cut(Integer.MIN_VALUE), UNKNOWN);
    due(8, "cut(1) with one on it", x.cut(1), 2);
    due(8, "count(2)", x.count(2), 1);
    due(8, "count(3)", x.count(3), 1);
    refused(8, "cut(1) again", x, x.digest(), x.cut(1), STATE);
    refused(8, "cut(2), fallen", x, x.digest(), x.cut(2), STATE);
    refused(8, "cut(3), a TIP, by DARK", x, x.digest(), x.cut(3), STATE);
    due(8, "cut(6) by DARK", x.cut(6), 1);
    due(8, "cut(5), bare now", x.cut(5), 1);
    due(8, "cut(0) by DARK: what fell before does not fall again", x.cut(0), 2);
    refused(8, "cut(4), IRON", x, x.digest(), x.cut(4), STATE);
    due(8, "count(1)", x.count(1), 1);
    due(8, "count(3)", x.count(3), 4);

    // The 999th cut lies beyond the 512 calls that are promised; the refusal is looked at all the same.
    HedgeGame y = of("b-,i-");
    for (int i = 0; i < 999; i++) {
      due(8, "cut(0)", y.cut(0), 1);
      y.grow(0);
    }
    refused(8, "cut(0), the 1000th", y, y.digest(), y.cut(0), FULL);
    refused(8, "cut(1), the 1000th, IRON", y, y.digest(), y.cut(1), STATE);
    refused(8, "cut(2), the 1000th", y, y.digest(), y.cut(2), UNKNOWN);
    due(8, "count(3)", y.count(3), 999);
  }

  private static void grow() {
    HedgeGame x = of("w-,d0,b1,i-");
    refused(9, "grow(0), STANDS", x, x.digest(), x.grow(0), STATE);
    x.cut(0);
    refused(9, "grow(1) on what does not STAND", x, x.digest(), x.grow(1), STATE);
    refused(9, "grow(2) on what does not STAND", x, x.digest(), x.grow(2), STATE);
    refused(9, "grow(-1)", x, x.digest(), x.grow(-1), UNKNOWN);
    refused(9, "grow(4)", x, x.digest(), x.grow(4), UNKNOWN);
    refused(9, "grow(MAX)", x, x.digest(), x.grow(Integer.MAX_VALUE), UNKNOWN);
    due(9, "grow(0)", x.grow(0), 2);
    due(9, "branch(1, 2)", x.branch(1, 2), 0);
    due(9, "count(2) stays", x.count(2), 1);
    due(9, "count(3) stays", x.count(3), 1);
    due(9, "grow(1)", x.grow(1), 3);
    due(9, "grow(2)", x.grow(2), 4);
    refused(9, "grow(2) again", x, x.digest(), x.grow(2), STATE);
  }

  private static void pass() {
    HedgeGame x = of("w-,d-");
    due(10, "pass()", x.pass(), 0);
    due(10, "count(2)", x.count(2), 1);
    due(10, "count(3)", x.count(3), 0);
    due(10, "cut(0) by DARK", x.cut(0), STATE);
    due(10, "cut(1) by DARK", x.cut(1), 1);
    due(10, "pass() again", x.pass(), 0);
    due(10, "pass() back", x.pass(), 1);
    due(10, "count(2), back", x.count(2), 0);
    HedgeGame none = page("w-");
    refused(10, "pass(), no HEDGE", none, none.digest(), none.pass(), STATE);
  }

  private static void graft() {
    HedgeGame x = of("w-,d0");
    due(11, "worth()", x.worth(), 128);
    due(11, "graft(1, 1)", x.graft(1, 1), 2);
    due(11, "branch(1, 0)", x.branch(1, 0), 1);
    due(11, "worth()", x.worth(), 512);
    due(11, "wins(1)", x.wins(1), 0);
    due(11, "lasts(0)", x.lasts(0), 1);
    due(11, "graft(0, 2)", x.graft(0, 2), 1);
    due(11, "worth()", x.worth(), -128);
    due(11, "wins(0)", x.wins(0), 1);
    due(11, "best(0)", x.best(0), 1);
    due(11, "likely(0)", x.likely(0), 0);
    due(11, "graft(0, 2), as it is", x.graft(0, 2), 2);
    afterGraft();
    due(11, "graft(0, 4)", x.graft(0, 4), 2);
    due(11, "graft(0, 0)", x.graft(0, 0), 4);
    due(11, "graft(0, 3)", x.graft(0, 3), 0);
    due(11, "worth(), a white one on iron", x.worth(), 256);
    x.cut(1);
    due(11, "graft(1, 2), which does not STAND", x.graft(1, 2), 1);
    due(11, "branch(1, 2)", x.branch(1, 2), 0);
    due(11, "count(3)", x.count(3), 1);
    due(11, "count(2)", x.count(2), 1);
    for (int bad : new int[] {-1, 5, Integer.MIN_VALUE, Integer.MAX_VALUE}) {
      refused(11, "graft(" + bad + ", 0)", x, x.digest(), x.graft(bad, 0), UNKNOWN);
      refused(11, "graft(0, " + bad + ")", x, x.digest(), x.graft(0, bad), OUTSIDE);
      refused(11, "graft(" + bad + ", " + bad + ")", x, x.digest(), x.graft(bad, bad), UNKNOWN);
    }
    refused(11, "graft(2, 0)", x, x.digest(), x.graft(2, 0), UNKNOWN);
  }

  /** What was told before a graft must not be told of the KINDS behind it. */
  private static void afterGraft() {
    HedgeGame x = of("w-,d-");
    int[] before = {x.wins(0), x.best(0), x.lasts(0), x.likely(0), x.worth(), x.tree(1), x.even(), x.branch(0, 7)};
    x.graft(1, 1);
    int[] after = {x.wins(0), x.best(0), x.lasts(0), x.likely(0), x.worth(), x.tree(1), x.even(), x.branch(0, 7)};
    int[] first = {1, 0, 2, 0, 0, -256, -2, 1};
    int[] then = {0, 0, 1, 1000000, 512, 256, 2, 0};
    for (int i = 0; i < first.length; i++) {
      due(11, "the " + i + "th before graft(1, 1)", before[i], first[i]);
      due(11, "the " + i + "th after graft(1, 1)", after[i], then[i]);
    }
  }

  private static void wins() {
    String[] texts = {"w-", "d-", "b-", "i-", "t-", "w-,d-", "w-,d0", "d-,w0", "b-,b-", "b-,b0", "b-,b-,b-", "t-,d0", "i-,b0",
      "t-,b0", "w-,w-,b-", "d-,w0,b-"};
    int[] byWhite = {0, 1, 0, 1, 0, 1, 0, 1, 1, 0, 0, 1, 0, 0, 0, 1};
    int[] byDark = {0, 1, 1, 0, 0, 0, 0, 1, 0, 1, 1, 0, 1, 0, 0, 1};
    for (int i = 0; i < texts.length; i++) {
      HedgeGame x = of(texts[i]);
      due(12, "wins(0) of " + texts[i], x.wins(0), byWhite[i]);
      due(12, "wins(1) of " + texts[i], x.wins(1), byDark[i]);
      x.pass();
      due(12, "wins(0) whoever's turn it is", x.wins(0), byWhite[i]);
    }
    HedgeGame x = of("b-,b-");
    x.cut(1);
    due(12, "wins(0) of what STANDS", x.wins(0), 0);
    due(12, "wins(1) of what STANDS", x.wins(1), 1);
    HedgeGame none = new HedgeGame();
    for (int bad : NOT_SIDES) {
      refused(12, "wins(" + bad + ")", x, x.digest(), x.wins(bad), OUTSIDE);
      due(12, "wins(" + bad + "), no HEDGE", none.wins(bad), OUTSIDE);
    }
  }

  private static void best() {
    due(13, "best(0): cutting the 1 loses", of("b-,b0").best(0), 0);
    due(13, "best(0): the lesser of two that win, though not the sooner", of("w-,w-,b-").best(0), 0);
    due(13, "best(0): cutting both loses", of("w-,w0,d-").best(0), 1);
    due(13, "best(1): lost, the only one", of("w-,w0,d-").best(1), 2);
    due(13, "best(0): lost, the one that goes on longer", of("w-,w0,d-,d-,d-").best(0), 1);
    due(13, "best(0): lost, the least of like ones", of("i-,w-,w-,d-,d-,d-").best(0), 1);
    due(13, "best(1): may CUT nothing", of("w-,t-,i-").best(1), NONE);
    due(13, "best(0): may CUT nothing", of("t-,d0").best(0), NONE);
    due(13, "best(1): cutting the 2 loses", of("w-,d0,d-").best(1), 1);
    due(13, "best(1): cutting the 0 loses", of("d-,w-,d1").best(1), 2);
    HedgeGame x = of("w-,w-,b-");
    x.cut(0);
    due(13, "best(0) of what STANDS", x.best(0), 2);
    due(13, "best(1) of what STANDS", x.best(1), 2);
    HedgeGame none = new HedgeGame();
    for (int bad : NOT_SIDES) {
      refused(13, "best(" + bad + ")", x, x.digest(), x.best(bad), OUTSIDE);
      due(13, "best(" + bad + "), no HEDGE", none.best(bad), OUTSIDE);
    }
  }

  private static void lasts() {
    String[] texts = {"i-", "w-", "d-", "b-", "w-,d-", "w-,w-,b-", "w-,w0,d-", "w-,w0,d-,d-,d-", "b-,b0", "b-,b-", "t-,d0"};
    int[] byWhite = {0, 1, 0, 1, 2, 1, 3, 4, 1, 2, 0};
    int[] byDark = {0, 0, 1, 1, 2, 2, 2, 5, 1, 2, 2};
    for (int i = 0; i < texts.length; i++) {
      HedgeGame x = of(texts[i]);
      due(14, "lasts(0) of " + texts[i], x.lasts(0), byWhite[i]);
      due(14, "lasts(1) of " + texts[i], x.lasts(1), byDark[i]);
    }
    due(14, "lasts(0) of eight", of(EIGHT_ON_THE_GROUND).lasts(0), 8);
    HedgeGame x = of("w-,d-");
    x.cut(0);
    due(14, "lasts(0) of what STANDS", x.lasts(0), 0);
    due(14, "lasts(1) of what STANDS", x.lasts(1), 1);
    HedgeGame none = new HedgeGame();
    for (int bad : NOT_SIDES) {
      refused(14, "lasts(" + bad + ")", x, x.digest(), x.lasts(bad), OUTSIDE);
      due(14, "lasts(" + bad + "), no HEDGE", none.lasts(bad), OUTSIDE);
    }
  }

  private static void worth() {
    String[] texts = {"i-", "w-", "d-", "t-", "b-", "w-,w-", "w-,w0", "w-,d-", "w-,d0", "d-,w0", "w-,d0,d1", "w-,d0,w1",
      "d-,w0,d1", "w-,d0,d0", "t-,d0", "t-,w0", "w-,t0", "t-,d0,d-", "i-,w0", "i-,d0,d0", "b-,b-", "b-,i-", "w-,b0", "i-,b0",
      "w-,w-,w-,w-,w-,w-,w-,w-", "d-,d-,d-,d-,d-,d-,d-,d-", "w-,d0,d1,d2,d3,d4,d5,d6", "d-,w0,w1,w2,w3,w4,w5,w6",
      "w-,d0,w1,w2,w3,w4,w5,w6", "w-,w0,w1,w2,w3,w4,w5,w6", "w-,w0,d1,w2"};
    int[] values = {0, 256, -256, 256, NO_WORTH, 512, 512, 0, 128, -128, 64, 192,
      -192, 64, 0, 512, 512, -256, 256, -512, NO_WORTH, NO_WORTH, NO_WORTH, NO_WORTH,
      2048, -2048, 2, -2,
      254, 2048, 448};
    for (int i = 0; i < texts.length; i++) {
      due(15, "worth() of " + texts[i], of(texts[i]).worth(), values[i]);
    }
    HedgeGame x = of("w-,w0,b-");
    due(15, "worth() with a plain one", x.worth(), NO_WORTH);
    x.cut(2);
    due(15, "worth() without it", x.worth(), 512);
    x.pass();
    x.cut(0);
    due(15, "worth() of nothing", x.worth(), 0);
    HedgeGame none = page("w-");
    refused(15, "worth(), no HEDGE", none, none.digest(), none.worth(), STATE);
  }

  private static void tree() {
    HedgeGame x = of("w-,d-,d0,b-,w1,t0,d5");
    due(16, "tree(1)", x.tree(1), -128);
    due(16, "tree(3)", x.tree(3), NO_WORTH);
    due(16, "worth()", x.worth(), NO_WORTH);
    refused(16, "tree(2)", x, x.digest(), x.tree(2), STATE);
    refused(16, "tree(6)", x, x.digest(), x.tree(6), STATE);
    refused(16, "tree(7)", x, x.digest(), x.tree(7), UNKNOWN);
    refused(16, "tree(-1)", x, x.digest(), x.tree(-1), UNKNOWN);
    refused(16, "tree(MAX)", x, x.digest(), x.tree(Integer.MAX_VALUE), UNKNOWN);
    x.cut(3);
    due(16, "tree(3), cut", x.tree(3), 0);
    x.cut(6);
    due(16, "tree(0) without its last", x.tree(0), of("w-,d0,t0").worth());
    x.pass();
    x.cut(2);
    due(16, "tree(0), white and its tip", x.tree(0), 512);
    x.cut(4);
    due(16, "tree(1), bare", x.tree(1), -256);
    due(16, "worth() together", x.worth(), 256);
    due(16, "tree(0) of one that is hot", of("b-,b0").tree(0), NO_WORTH);
  }

  private static void even() {
    String[] texts = {"w-", "w-,w-", "w-,d-", "w-,w-,w-", "b-,d0", "b-,b-", "i-", "i-,w-", "b-", "d-,i-", "i-,i-,d-",
      "i-,b-", "d-,d-,d-,d-,d-,d-,d-,d-", "i-,i-,i-,i-,i-,i-,i-,w-", "i-,i0,i1,i2,i3,i4,i5,w6"};
    int[] told = {3, 2, -2, NONE, 4, -2, -2, 2, 3, 3, 1, 0, NONE, 2, 73};
    for (int i = 0; i < texts.length; i++) {
      due(17, "even() of " + texts[i], of(texts[i]).even(), told[i]);
    }
    HedgeGame x = of("w-,w-");
    x.cut(0);
    long before = x.branch(1, 0);
    due(17, "even(), STANDING as now", x.even(), 13);
    due(17, "branch(1, 0) stays", x.branch(1, 0), before);
    due(17, "count(10)", x.count(10), 1);
    for (int i = 2; i <= 30; i++) {
      due(17, "even()", x.even(), 13);
      due(17, "count(10)", x.count(10), i);
      if (i == 10) {
        x.image();
      }
      if (i == 20) {
        x.restore();
      }
    }
    refused(17, "even(), the 31st", x, x.digest(), x.even(), STATE);
    type(x, "w-").hedge();
    refused(17, "even(), the 31st, with another HEDGE", x, x.digest(), x.even(), STATE);
    HedgeGame none = page("w-");
    refused(17, "even(), no HEDGE", none, none.digest(), none.even(), STATE);
  }

  private static void likely() {
    String[] texts = {"i-", "w-", "d-", "b-", "w-,d0", "b-,b0", "b-,b0,b0", "t-,d0", "d-,w0"};
    int[] byWhite = {0, 1000000, 0, 1000000, 1000000, 500000, 666666, 0, 0};
    int[] byDark = {1000000, 1000000, 0, 0, 1000000, 500000, 333333, 1000000, 0};
    for (int i = 0; i < texts.length; i++) {
      HedgeGame x = of(texts[i]);
      due(18, "likely(0) of " + texts[i], x.likely(0), byWhite[i]);
      due(18, "likely(1) of " + texts[i], x.likely(1), byDark[i]);
    }
    // Seven plain ones on a plain one: n on it, who begins wins by 1/(n+1) + n/(n+1) * (1 - of n-1).
    HedgeGame eight = of("b-,b0,b0,b0,b0,b0,b0,b0");
    due(18, "likely(0) of eight", eight.likely(0), 500000);
    due(18, "likely(1) of eight", eight.likely(1), 500000);
    eight.cut(7);
    due(18, "likely(0) of seven", eight.likely(0), 571428);
    due(18, "likely(1) of seven", eight.likely(1), 428571);
    HedgeGame none = new HedgeGame();
    for (int bad : NOT_SIDES) {
      refused(18, "likely(" + bad + ")", eight, eight.digest(), eight.likely(bad), OUTSIDE);
      due(18, "likely(" + bad + "), no HEDGE", none.likely(bad), OUTSIDE);
    }
  }

  private static void see() {
    HedgeGame x = of("w-,d-");
    refused(19, "see(2, 0, true)", x, x.digest(), x.see(2, 0, true), UNKNOWN);
    refused(19, "see(-1, 0, true)", x, x.digest(), x.see(-1, 0, true), UNKNOWN);
    refused(19, "see(2, 2, true)", x, x.digest(), x.see(2, 2, true), UNKNOWN);
    for (int bad : NOT_SIDES) {
      refused(19, "see(0, " + bad + ", true)", x, x.digest(), x.see(0, bad, true), OUTSIDE);
    }
    for (int i = 1; i <= 6; i++) {
      due(19, "see(1, 1, true)", x.see(1, 1, true), i);
      due(19, "count(7)", x.count(7), i);
    }
    refused(19, "see(0, 0, true), the 7th", x, x.digest(), x.see(0, 0, true), FULL);
    refused(19, "see(2, 0, true), the 7th", x, x.digest(), x.see(2, 0, true), UNKNOWN);
    refused(19, "see(0, 2, true), the 7th", x, x.digest(), x.see(0, 2, true), OUTSIDE);
    due(19, "branch(0, 6), not SEEN", x.branch(0, 6), 31);
    due(19, "branch(1, 6): beside WHITE, DARK wins by a plain one alone", x.branch(1, 6), 0);
    x.cut(0);
    due(19, "branch(1, 6): alone", x.branch(1, 6), 5);
    x.forget();
    x.cut(1);
    due(19, "see of what does not STAND", x.see(1, 1, false), 1);
    due(19, "branch(1, 6)", x.branch(1, 6), 31);
  }

  private static void forget() {
    HedgeGame x = of("w-");
    due(20, "forget(), nothing", x.forget(), 0);
    x.see(0, 0, true);
    x.see(0, 1, true);
    due(20, "branch(0, 6)", x.branch(0, 6), 1);
    due(20, "forget()", x.forget(), 2);
    due(20, "count(7)", x.count(7), 0);
    due(20, "branch(0, 6)", x.branch(0, 6), 31);
    due(20, "see", x.see(0, 1, false), 1);
    due(20, "branch(0, 6)", x.branch(0, 6), 26);
  }

  private static void games() {
    gamesAre("i-", 3, 5, 1, 0, 5);
    gamesAre("w-", 1, 0, 1, 1, 12345);
    gamesAre("w-", 2, 0, 2, 1, 12345);
    gamesAre("d-", 2, 0, 0, 1, 12345);
    gamesAre("b-,b-", 1, 0, 0, 2, 1406932606);
    gamesAre("b-,b-", 2, 0, 1, 4, 1449466924);
    gamesAre("b-,b0", 1, 0, 1, 1, 12345);
    gamesAre("b-,b0", 1, 654583775, 0, 2, 229283573);
    gamesAre("b-,b0", 1, 12345, 1, 1, 1406932606);
    gamesAre("w-", 1, Integer.MAX_VALUE, 1, 1, 1043980748);
    gamesAre("i-", 40, Integer.MAX_VALUE, 20, 0, Integer.MAX_VALUE);
    gamesAre("b-,b0", 40, 7, 15, 55, 1297175086);
    gamesAre(EIGHT_ON_THE_GROUND, 2, 0, 1, 16, 1695770928);
    gamesAre("b-,b0,b0,b0,b0,b0,b0,b0", 40, Integer.MAX_VALUE, 20, 186, 1387828125);
    HedgeGame x = of("i-,b0,w-,d2,d-");
    long before = x.digest();
    x.games(40, 1, 0);
    due(21, "games change nothing", x.digest(), before);
    x.cut(1);
    x.cut(4);
    x.cut(2);
    due(21, "games(3, 9, 0) of what STANDS", x.games(3, 9, 0), 1);
    due(21, "games(3, 9, 1) of what STANDS", x.games(3, 9, 1), 0);
    HedgeGame none = new HedgeGame();
    int[][] bad = {{0, 1, 0}, {41, 1, 0}, {-1, 1, 0}, {1, -1, 0}, {1, Integer.MIN_VALUE, 0}, {1, 1, -1}, {1, 1, 3},
      {Integer.MAX_VALUE, 1, 0}, {Integer.MIN_VALUE, 1, 0}, {1, 1, Integer.MAX_VALUE}};
    for (int[] b : bad) {
      String call = "games(" + b[0] + ", " + b[1] + ", " + b[2] + ")";
      refused(21, call, x, x.digest(), x.games(b[0], b[1], b[2]), OUTSIDE);
      due(21, call + ", no HEDGE", none.games(b[0], b[1], b[2]), OUTSIDE);
    }
  }

  private static void gamesAre(String text, int times, int seed, int whites, int cuts, int then) {
    HedgeGame x = of(text);
    String call = "games(" + times + ", " + seed + ", ";
    due(21, call + "0) of " + text, x.games(times, seed, 0), whites);
    due(21, call + "1) of " + text, x.games(times, seed, 1), cuts);
    due(21, call + "2) of " + text, x.games(times, seed, 2), then);
    x.pass();
    due(21, call + "0), whoever's turn it is", x.games(times, seed, 0), whites);
  }

  private static void image() {
    HedgeGame x = of("w-,d0,b-");
    due(22, "image()", x.image(), 0);
    x.cut(2);
    due(22, "image(), the latest", x.image(), 1);
    long before = x.digest();
    x.cut(1);
    due(22, "restore()", x.restore(), 1);
    due(22, "digest()", x.digest(), before);
    HedgeGame none = page("w-");
    refused(22, "image(), no HEDGE", none, none.digest(), none.image(), STATE);
    due(22, "restore() then", none.restore(), STATE);
  }

  private static void restore() {
    HedgeGame x = of("w-,d0,b-");
    refused(23, "restore(), none kept", x, x.digest(), x.restore(), STATE);
    x.cut(2);
    x.see(0, 1, true);
    x.image();
    long before = x.digest();
    x.cut(1);
    x.graft(0, 3);
    x.graft(1, 4);
    x.grow(2);
    x.see(1, 0, false);
    x.see(2, 0, false);
    x.worth();
    x.likely(0);
    due(23, "restore()", x.restore(), 1);
    due(23, "digest()", x.digest(), before);
    due(23, "count(7)", x.count(7), 1);
    due(23, "branch(0, 0)", x.branch(0, 0), 1);
    x.forget();
    x.see(1, 0, false);
    due(23, "restore() again", x.restore(), 1);
    due(23, "digest() again", x.digest(), before);
    x.pass();
    due(23, "restore() with another turn", x.restore(), 1);
    due(23, "count(2)", x.count(2), 1);
    type(x, "w");
    x.even();
    due(23, "restore() leaves the page and what even() counts", x.restore(), 1);
    due(23, "count(8)", x.count(8), 1);
    due(23, "count(10)", x.count(10), 1);
    type(x, "x");
    due(23, "hedge() of none", x.hedge(), STATE);
    due(23, "restore() after a refused hedge()", x.restore(), 1);
    x.blank();
    type(x, "w-,d0,b-").hedge();
    refused(23, "restore() with another HEDGE, though of the same text", x, x.digest(), x.restore(), STATE);
    due(23, "image() of it", x.image(), 0);
    due(23, "restore() of it", x.restore(), 0);
  }

  private static void count() {
    HedgeGame x = of("w-,d0,b1,t-,i-,t4");
    type(x, "b-,");
    x.cut(5);
    x.cut(1);
    x.pass();
    x.see(0, 0, true);
    x.see(1, 1, true);
    x.even();
    x.even();
    x.even();
    int[] counts = {6, 3, 1, 2, 2, 0, 3, 2, 3, 1, 3};
    for (int what = 0; what < counts.length; what++) {
      due(24, "count(" + what + ")", x.count(what), counts[what]);
    }
    x.pass();
    x.cut(0);
    due(24, "count(6), STANDING or not", x.count(6), 3);
    due(24, "count(1)", x.count(1), 2);
    for (int bad : new int[] {-1, 11, Integer.MIN_VALUE, Integer.MAX_VALUE}) {
      refused(24, "count(" + bad + ")", x, x.digest(), x.count(bad), OUTSIDE);
    }
    HedgeGame y = of("b-,d-,w-");
    due(24, "count(4)", y.count(4), 2);
    due(24, "count(5)", y.count(5), 2);
  }

  private static void digest() {
    HedgeGame x = new HedgeGame();
    due(25, "digest() of a new object", x.digest(), digestOf(x, ""));
    long h = 1283;
    for (int i = 0; i < 11; i++) {
      h *= 31;
    }
    due(25, "digest() of a new object, by hand", x.digest(), h);
    type(x, "~ b");
    due(25, "digest() with a page", x.digest(), digestOf(x, "~ b"));
    x.blank();
    for (String text : new String[] {"w-", "b-,d0,i-,t2,w2,b-", EIGHT_ON_THE_GROUND, "t-,d0,w1,b2,t3,d4,w5,b6"}) {
      type(x, text).hedge();
      type(x, "w-,");
      x.see(0, 0, true);
      due(25, "digest() of " + text, x.digest(), digestOf(x, "w-,"));
      x.cut(0);
      due(25, "digest() of " + text + ", cut", x.digest(), digestOf(x, "w-,"));
      due(25, "digest() changes nothing", x.digest(), digestOf(x, "w-,"));
      x.blank();
    }
  }

  private static long digestOf(HedgeGame x, String page) {
    long h = 1283;
    int number = x.count(0);
    for (int i = 0; i < number; i++) {
      for (int what = 0; what <= 7; what++) {
        h = 31 * h + x.branch(i, what);
      }
    }
    for (int side = 0; side < 2 && number > 0; side++) {
      h = 31 * h + x.wins(side);
      h = 31 * h + x.best(side);
      h = 31 * h + x.lasts(side);
      h = 31 * h + x.likely(side);
    }
    if (number > 0) {
      h = 31 * h + x.worth();
    }
    for (int i = 0; i < number; i++) {
      if (x.branch(i, 1) == NONE) {
        h = 31 * h + x.tree(i);
      }
    }
    for (char letter : page.toCharArray()) {
      h = 31 * h + letter;
    }
    for (int what = 0; what <= 10; what++) {
      h = 31 * h + x.count(what);
    }
    return h;
  }
}
