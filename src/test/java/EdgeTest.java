import java.math.BigInteger;
import java.util.function.IntUnaryOperator;

/**
 * One test for each sentence of the promises 1 to 25 that names a boundary case: the least and the most that a call takes or
 * answers, nothing and all, and each refusal on both sides of its bound. Each would fail if its sentence were broken.
 */
public final class EdgeTest {
  private static final int NONE = Sentences.NONE, UNKNOWN = Sentences.UNKNOWN, OUTSIDE = Sentences.OUTSIDE;
  private static final int STATE = Sentences.STATE, FULL = Sentences.FULL, NO_WORTH = Sentences.NO_WORTH;
  private static final int MIN = Sentences.MIN, MAX = Sentences.MAX;
  private static final String FULL_PAGE = "abcdefghijklmnopqrstuvwxyz";

  public static void main(String[] args) {
    thePage();
    theHedge();
    branches();
    cutting();
    growing();
    passingAndGrafting();
    beginners();
    worthAndTree();
    even();
    seeing();
    games();
    images();
    counts();
    digests();
    Sentences.end();
  }

  private static void test(int promise, String words, Runnable body) {
    Sentences.test("Promise " + promise, words, body);
  }

  private static void due(String call, long got, long want) {
    Sentences.due(call, got, want);
  }

  private static HedgeGame of(String text) {
    return Sentences.of(text);
  }

  private static HedgeGame page(String text) {
    return Sentences.page(text);
  }

  /** Each number that names no branch of a hedge is refused. */
  private static void unknownBranches(HedgeGame x, String call, IntUnaryOperator made) {
    for (int branch : new int[] {-1, x.count(0), MIN, MAX}) {
      Sentences.refused(x, call + " of " + branch, () -> made.applyAsInt(branch), UNKNOWN);
    }
  }

  // ---- 1 to 4: a new object, THE PAGE

  private static void thePage() {
    test(1, "No HEDGE.", EdgeTest::newObject);
    test(2, "how many THE PAGE has", EdgeTest::lettersTold);
    test(2, "OUTSIDE: code (32 to 126)", EdgeTest::codesOutside);
    test(2, "FULL: above 26", EdgeTest::pageFull);
    test(3, "THE PAGE is empty: how many letters it had.", EdgeTest::blankPage);
    test(4, "The place (from 0) of the first letter of THE PAGE that no HEDGE has there", EdgeTest::firstFault);
    test(4, "behind those ahead of it", EdgeTest::faultBehind);
    test(4, "how many letters it has, if there is none", EdgeTest::noFault);
  }

  private static void newObject() {
    HedgeGame x = new HedgeGame();
    for (int what = 0; what <= 10; what++) {
      due("count(" + what + ")", x.count(what), 0);
    }
    int[] answers = {x.blank(), x.fault(), x.hedge(), x.branch(0, 0), x.as(0, 0), x.cut(0), x.grow(0), x.pass(), x.graft(0, 0),
      x.wins(0), x.best(0), x.lasts(0), x.worth(), x.tree(0), x.even(), x.likely(0), x.see(0, 0, true), x.forget(),
      x.games(1, 0, 0), x.image(), x.restore()};
    int[] want = {0, 0, STATE, UNKNOWN, UNKNOWN, UNKNOWN, UNKNOWN, STATE, UNKNOWN,
      STATE, STATE, STATE, STATE, UNKNOWN, STATE, STATE, UNKNOWN, 0,
      STATE, STATE, STATE};
    for (int i = 0; i < want.length; i++) {
      due("the call " + i + " on a new object", answers[i], want[i]);
    }
    due("digest(), as before", x.digest(), new HedgeGame().digest());
  }

  private static void lettersTold() {
    HedgeGame x = new HedgeGame();
    for (int letters = 1; letters <= 26; letters++) {
      due("letter, the " + letters + "th", x.letter('b'), letters);
      due("count(8)", x.count(8), letters);
    }
    x.blank();
    due("letter behind blank()", x.letter('b'), 1);
  }

  private static void codesOutside() {
    HedgeGame x = new HedgeGame();
    for (int code : new int[] {31, 0, -1, MIN, 127, 128, 255, 65536 + 'b', MAX}) {
      Sentences.refused(x, "letter(" + code + ")", () -> x.letter(code), OUTSIDE);
    }
    due("letter(32)", x.letter(32), 1);
    due("letter(126)", x.letter(126), 2);
    HedgeGame all = new HedgeGame();
    for (int code = 32; code <= 126; code++) {
      due("letter(" + code + ")", all.letter(code), 1);
      all.blank();
    }
  }

  private static void pageFull() {
    HedgeGame x = page("abcdefghijklmnopqrstuvwxy");
    due("letter('z'), the 26th", x.letter('z'), 26);
    Sentences.refused(x, "letter('z'), the 27th", () -> x.letter('z'), FULL);
    due("count(8)", x.count(8), 26);
    due("blank()", x.blank(), 26);
    due("letter('z') behind blank()", x.letter('z'), 1);
  }

  private static void blankPage() {
    due("blank() of none", new HedgeGame().blank(), 0);
    HedgeGame x = page(FULL_PAGE);
    due("blank() of 26", x.blank(), 26);
    due("count(8)", x.count(8), 0);
    due("fault()", x.fault(), 0);
    due("blank() again", x.blank(), 0);
    Sentences.type(x, "w-").hedge();
    due("blank() behind hedge()", x.blank(), 0);
    due("count(0): the HEDGE stays", x.count(0), 1);
  }

  private static void faultIs(String text, int want) {
    due("fault() of '" + text + "'", page(text).fault(), want);
  }

  private static void firstFault() {
    faultIs("x", 0);
    faultIs("xx", 0);
    faultIs("bx", 1);
    faultIs("b-x", 2);
    faultIs("b-,x-,x-", 3);
    faultIs("b-,b0,b1,b2,b3,b4,b5,bx", 22);
    faultIs("b-,b0,b1,b2,b3,b4,b5,b6,", 23);
    faultIs("b-,b0,b1,b2,b3,b4,b5,b6x", 23);
    faultIs("b-,b0,b1,b2,b3,b4,b5,b6,b7", 23);
    faultIs("B-", 0);
  }

  private static void faultBehind() {
    // The same letter is right where enough branches are ahead of it, and wrong where not.
    faultIs("b0", 1);
    faultIs("b-,b1", 4);
    faultIs("b-,b0,b1", 8);
    faultIs("b-,b0,b2", 7);
    faultIs("b-,b-,b-,b-,b-,b-,b-,b6", 23);
    faultIs("b-,b-,b-,b-,b-,b-,b-,b7", 22);
    faultIs("b-,b-,b-,b-,b-,b-,b-,b8", 22);
    faultIs("b-,-", 3);
  }

  private static void noFault() {
    faultIs("", 0);
    String whole = "b-,w0,d1,i-,t2,b4,w5,d6";
    for (int letters = 1; letters <= 23; letters++) {
      faultIs(whole.substring(0, letters), letters);
    }
    HedgeGame x = page("b-,w");
    due("fault()", x.fault(), 4);
    due("fault() changes nothing", x.fault(), 4);
    due("count(8)", x.count(8), 4);
  }

  // ---- 5: hedge

  private static void theHedge() {
    test(5, "(another one is gone, with all that was)", EdgeTest::anotherHedge);
    test(5, "how many BRANCHES", EdgeTest::branchesRead);
    test(5, "THE PAGE is empty then", EdgeTest::pageEmptyThen);
    test(5, "STATE: it is none.", EdgeTest::noHedge);
  }

  private static void anotherHedge() {
    HedgeGame x = of("b-,b0,b1,b-,d-,w-");
    x.cut(3);
    x.see(0, 0, true);
    x.graft(1, 3);
    x.image();
    Sentences.type(x, "b-,w0").hedge();
    due("count(0)", x.count(0), 2);
    due("count(1)", x.count(1), 2);
    due("count(2)", x.count(2), 0);
    due("count(3)", x.count(3), 0);
    due("count(7)", x.count(7), 0);
    due("branch(0, 5)", x.branch(0, 5), 2);
    due("branch(1, 5): nothing is ON it now", x.branch(1, 5), 0);
    due("branch(0, 6)", x.branch(0, 6), 31);
    due("branch(1, 0)", x.branch(1, 0), 1);
    due("branch(2, 0): the third one is gone", x.branch(2, 0), UNKNOWN);
    due("restore(): the IMAGE is gone", x.restore(), STATE);
    due("worth()", x.worth(), NO_WORTH);
    due("wins(1)", x.wins(1), 1);
    Sentences.type(x, "w-").hedge();
    due("worth() of the next one", x.worth(), 256);
    due("wins(1) of the next one", x.wins(1), 0);
  }

  private static void branchesRead() {
    HedgeGame x = new HedgeGame();
    for (int number = 8; number >= 1; number--) {
      due("hedge() of " + number, Sentences.type(x, Sentences.onGround('t', number)).hedge(), number);
      due("count(0)", x.count(0), number);
    }
  }

  private static void pageEmptyThen() {
    HedgeGame x = of("w-,d-");
    due("count(8)", x.count(8), 0);
    due("fault()", x.fault(), 0);
    due("hedge() again", x.hedge(), STATE);
    due("count(0)", x.count(0), 2);
    due("letter('b')", x.letter('b'), 1);
  }

  private static void noHedge() {
    for (String text : new String[] {"", "b", "b-,", "b-,b", "b-,b0,", "x-", "b0", "bb", "b-b", "b-,b1", "-", ",", "b-,,",
      "b-,b0,b1,b2,b3,b4,b5,b6,", "b-,b0,b1,b2,b3,b4,b5,b6,b", "b-,b0,b1,b2,b3,b4,b5,b6,b7", FULL_PAGE}) {
      HedgeGame x = of("w-,d0");
      x.image();
      Sentences.type(x, text);
      Sentences.refused(x, "hedge() of '" + text + "'", x::hedge, STATE);
      due("count(8): THE PAGE stays", x.count(8), text.length());
      due("count(9): it was not read", x.count(9), 1);
      due("restore(): the HEDGE is the same", x.restore(), 0);
    }
  }

  // ---- 6, 7: branch, as

  private static void branches() {
    test(6, "0 KIND", EdgeTest::kindTold);
    test(6, "1 ON which it is (NONE: the ground)", EdgeTest::onTold);
    test(6, "2 whether it STANDS (1, 0)", EdgeTest::standsTold);
    test(6, "3, 4 whether WHITE, DARK may CUT it (1, 0)", EdgeTest::mayTold);
    test(6, "5 what is ON it, straight, or by others, as bits (STANDING or not)", EdgeTest::aboveTold);
    test(6, "6 SORTS, as bits", EdgeTest::sortsTold);
    test(6, "7 LET (NONE)", EdgeTest::letTold);
    test(6, "UNKNOWN", EdgeTest::branchUnknown);
    test(6, "OUTSIDE", EdgeTest::branchOutside);
    test(7, "its number; NONE: it is none such (the cast fails)", EdgeTest::castTold);
    test(7, "UNKNOWN", EdgeTest::castUnknown);
    test(7, "OUTSIDE", EdgeTest::castOutside);
  }

  private static void kindTold() {
    HedgeGame x = of("i-,i-,i-,i-,i-,i-,i-,i-");
    for (int kind = 0; kind < 5; kind++) {
      x.graft(7, kind);
      due("branch(7, 0)", x.branch(7, 0), kind);
      due("branch(6, 0)", x.branch(6, 0), 3);
    }
  }

  private static void onTold() {
    HedgeGame x = of("w-,w0,w0,w2,w-,w3,w4,w6");
    int[] on = {NONE, 0, 0, 2, NONE, 3, 4, 6};
    for (int branch = 0; branch < 8; branch++) {
      due("branch(" + branch + ", 1)", x.branch(branch, 1), on[branch]);
    }
    x.cut(2);
    due("branch(3, 1), fallen", x.branch(3, 1), 2);
  }

  private static void standsTold() {
    HedgeGame x = of(Sentences.chain("bbbbbbbb"));
    x.cut(7);
    due("branch(7, 2), CUT", x.branch(7, 2), 0);
    due("branch(6, 2)", x.branch(6, 2), 1);
    x.cut(0);
    due("branch(0, 2), CUT", x.branch(0, 2), 0);
    due("branch(6, 2), fallen", x.branch(6, 2), 0);
    x.grow(0);
    due("branch(0, 2), grown", x.branch(0, 2), 1);
    due("branch(1, 2), not grown", x.branch(1, 2), 0);
  }

  private static void mayTold() {
    HedgeGame x = of("b-,w-,d-,i-,t-,t4");
    int[] white = {1, 1, 0, 0, 0, 1};
    int[] dark = {1, 0, 1, 0, 0, 0};
    for (int turn = 0; turn < 2; turn++) {
      for (int branch = 0; branch < 6; branch++) {
        due("branch(" + branch + ", 3), turn " + turn, x.branch(branch, 3), white[branch]);
        due("branch(" + branch + ", 4), turn " + turn, x.branch(branch, 4), dark[branch]);
      }
      x.pass();
    }
    x.cut(0);
    due("branch(0, 3), CUT", x.branch(0, 3), 0);
    due("branch(0, 4), CUT", x.branch(0, 4), 0);
  }

  private static void aboveTold() {
    HedgeGame chain = of(Sentences.chain("bbbbbbbb"));
    for (int branch = 0; branch < 8; branch++) {
      due("branch(" + branch + ", 5) of a chain", chain.branch(branch, 5), 255 & -2 << branch);
    }
    chain.cut(0);
    due("branch(0, 5), all fallen", chain.branch(0, 5), 254);
    due("branch(7, 5), all fallen", chain.branch(7, 5), 0);
    HedgeGame flat = of(Sentences.onGround('b', 8));
    due("branch(0, 5), all on the ground", flat.branch(0, 5), 0);
    HedgeGame tree = of("b-,b0,b0,b1,b-,b2,b4");
    due("branch(0, 5)", tree.branch(0, 5), 46);
    due("branch(1, 5)", tree.branch(1, 5), 8);
    due("branch(4, 5)", tree.branch(4, 5), 64);
  }

  private static void sortsTold() {
    HedgeGame x = of("b-,i-");
    due("branch(0, 6), all", x.branch(0, 6), 31);
    x.see(0, 0, true);
    x.see(0, 1, true);
    due("branch(0, 6), one", x.branch(0, 6), 1);
    due("branch(1, 6): another BRANCH", x.branch(1, 6), 31);
    x.see(0, 1, false);
    due("branch(0, 6), none", x.branch(0, 6), 0);
  }

  private static void letTold() {
    HedgeGame x = of("w-,d-");
    due("branch(0, 7): DARK", x.branch(0, 7), 1);
    due("branch(1, 7): WHITE", x.branch(1, 7), 0);
    x.see(0, 0, true);
    due("branch(0, 7): no SORTS", x.branch(0, 7), NONE);
    due("branch(1, 7): nothing SEEN of it", x.branch(1, 7), 0);
  }

  private static void branchUnknown() {
    HedgeGame x = of("w-,d0");
    for (int whats = 0; whats <= 8; whats++) {
      int what = whats;
      unknownBranches(x, "branch(.., " + what + ")", branch -> x.branch(branch, what));
      due("branch(0, " + what + "), no HEDGE", new HedgeGame().branch(0, what), UNKNOWN);
    }
  }

  private static void branchOutside() {
    HedgeGame x = of("w-,d0");
    for (int what : new int[] {-1, 8, MIN, MAX}) {
      Sentences.refused(x, "branch(0, " + what + ")", () -> x.branch(0, what), OUTSIDE);
      Sentences.refused(x, "branch(1, " + what + ")", () -> x.branch(1, what), OUTSIDE);
    }
  }

  private static void castTold() {
    int[] such = {31, 18, 4, 8, 16};
    HedgeGame x = of("b-,w-,d-,i-,t-");
    for (int kind = 0; kind < 5; kind++) {
      for (int branch = 0; branch < 5; branch++) {
        due("as(" + branch + ", " + kind + ")", x.as(branch, kind), (such[kind] >> branch & 1) == 1 ? branch : NONE);
      }
    }
    x.cut(4);
    due("as(4, 1), fallen", x.as(4, 1), 4);
    x.graft(4, 2);
    due("as(4, 1), of another KIND", x.as(4, 1), NONE);
    due("as(4, 2), of another KIND", x.as(4, 2), 4);
  }

  private static void castUnknown() {
    HedgeGame x = of("w-,d0");
    unknownBranches(x, "as(.., 0)", branch -> x.as(branch, 0));
    due("as(0, 0), no HEDGE", new HedgeGame().as(0, 0), UNKNOWN);
  }

  private static void castOutside() {
    HedgeGame x = of("w-,d0");
    for (int kind : Sentences.NO_KINDS) {
      Sentences.refused(x, "as(0, " + kind + ")", () -> x.as(0, kind), OUTSIDE);
    }
  }

  // ---- 8, 9: cut, grow

  private static void cutting() {
    test(8, "how many fall", EdgeTest::howManyFall);
    test(8, "UNKNOWN", EdgeTest::cutUnknown);
    test(8, "STATE: he may not", EdgeTest::cutRefused);
    test(8, "FULL: 999 CUTS were.", EdgeTest::cutsFull);
  }

  private static void howManyFall() {
    due("cut(0) alone", of(Sentences.onGround('w', 8)).cut(0), 1);
    due("cut(0) with seven ON it", of("b-,b0,b0,b0,b0,b0,b0,b0").cut(0), 8);
    HedgeGame x = of("b-,b0,b1,b0");
    due("cut(1)", x.cut(1), 2);
    due("cut(0): what fell ahead of it does not fall again", x.cut(0), 2);
    due("count(3)", x.count(3), 2);
  }

  private static void cutUnknown() {
    HedgeGame x = of("b-,b0");
    unknownBranches(x, "cut", x::cut);
    due("cut(0), no HEDGE", new HedgeGame().cut(0), UNKNOWN);
  }

  private static void cutRefused() {
    HedgeGame x = of("w-,d-,i-,t-,b3");
    Sentences.refused(x, "cut(1), DARK, by WHITE", () -> x.cut(1), STATE);
    Sentences.refused(x, "cut(2), IRON, by WHITE", () -> x.cut(2), STATE);
    Sentences.refused(x, "cut(3), a TIP that is not bare", () -> x.cut(3), STATE);
    x.cut(4);
    Sentences.refused(x, "cut(0), WHITE, by DARK", () -> x.cut(0), STATE);
    Sentences.refused(x, "cut(2), IRON, by DARK", () -> x.cut(2), STATE);
    Sentences.refused(x, "cut(3), a bare TIP, by DARK", () -> x.cut(3), STATE);
    Sentences.refused(x, "cut(4), fallen", () -> x.cut(4), STATE);
  }

  private static void cutsFull() {
    // It lies beyond the 512 calls that are promised; the sentence is looked at all the same.
    HedgeGame x = of("b-,i-");
    for (int cuts = 0; cuts < 999; cuts++) {
      due("cut(0) behind " + cuts, x.cut(0), 1);
      x.grow(0);
    }
    due("count(3)", x.count(3), 999);
    Sentences.refused(x, "cut(0), the 1000th", () -> x.cut(0), FULL);
    Sentences.refused(x, "cut(1), the 1000th, which he may not", () -> x.cut(1), STATE);
    Sentences.refused(x, "cut(2), the 1000th, UNKNOWN", () -> x.cut(2), UNKNOWN);
  }

  private static void growing() {
    test(9, "how many STAND", EdgeTest::howManyStand);
    test(9, "UNKNOWN", EdgeTest::growUnknown);
    test(9, "STATE: it STANDS", EdgeTest::growsThatStands);
    test(9, "or cannot", EdgeTest::cannotGrow);
  }

  private static void howManyStand() {
    HedgeGame x = of(Sentences.chain("bbbbbbbb"));
    x.cut(0);
    for (int branch = 0; branch < 8; branch++) {
      due("grow(" + branch + ")", x.grow(branch), branch + 1);
    }
    due("count(3) stays", x.count(3), 1);
  }

  private static void growUnknown() {
    HedgeGame x = of("b-,b0");
    x.cut(0);
    unknownBranches(x, "grow", x::grow);
    due("grow(0), no HEDGE", new HedgeGame().grow(0), UNKNOWN);
  }

  private static void growsThatStands() {
    HedgeGame x = of("b-,b0");
    Sentences.refused(x, "grow(0)", () -> x.grow(0), STATE);
    Sentences.refused(x, "grow(1)", () -> x.grow(1), STATE);
    x.cut(1);
    due("grow(1), fallen", x.grow(1), 2);
    Sentences.refused(x, "grow(1), grown", () -> x.grow(1), STATE);
  }

  private static void cannotGrow() {
    HedgeGame x = of("b-,b0,b1");
    x.cut(0);
    Sentences.refused(x, "grow(1)", () -> x.grow(1), STATE);
    Sentences.refused(x, "grow(2)", () -> x.grow(2), STATE);
    x.grow(0);
    Sentences.refused(x, "grow(2), one between is missing", () -> x.grow(2), STATE);
  }

  // ---- 10, 11: pass, graft

  private static void passingAndGrafting() {
    test(10, "It is the other one's turn: whose it was.", EdgeTest::turnsPass);
    test(10, "STATE: no HEDGE.", EdgeTest::passWithoutHedge);
    test(11, "A BRANCH is of another KIND: of which it was.", EdgeTest::kindsGrafted);
    test(11, "UNKNOWN", EdgeTest::graftUnknown);
    test(11, "OUTSIDE: kind (0 to 4)", EdgeTest::graftOutside);
  }

  private static void turnsPass() {
    HedgeGame x = of("w-,d-");
    due("pass() of WHITE", x.pass(), 0);
    due("count(2)", x.count(2), 1);
    due("pass() of DARK", x.pass(), 1);
    due("count(2)", x.count(2), 0);
    due("count(3): no CUT", x.count(3), 0);
    x.cut(0);
    due("pass() behind a CUT", x.pass(), 1);
  }

  private static void passWithoutHedge() {
    HedgeGame x = page("w-");
    Sentences.refused(x, "pass()", x::pass, STATE);
    due("count(2)", x.count(2), 0);
    x.hedge();
    due("pass() with a HEDGE", x.pass(), 0);
  }

  private static void kindsGrafted() {
    HedgeGame x = of("b-,w0");
    for (int kind = 0; kind < 5; kind++) {
      due("graft(0, " + kind + ")", x.graft(0, kind), kind == 0 ? 0 : kind - 1);
      due("graft(0, " + kind + ") again", x.graft(0, kind), kind);
      due("branch(0, 0)", x.branch(0, 0), kind);
    }
    due("branch(1, 0): the other one stays", x.branch(1, 0), 1);
    x.cut(1);
    x.pass();
    x.cut(0);
    due("graft(1, 2), fallen", x.graft(1, 2), 1);
    due("branch(1, 2): it STANDS no more", x.branch(1, 2), 0);
    due("count(2): the turn stays", x.count(2), 1);
  }

  private static void graftUnknown() {
    HedgeGame x = of("b-,b0");
    unknownBranches(x, "graft(.., 1)", branch -> x.graft(branch, 1));
    due("graft(0, 0), no HEDGE", new HedgeGame().graft(0, 0), UNKNOWN);
  }

  private static void graftOutside() {
    HedgeGame x = of("b-,b0");
    for (int kind : Sentences.NO_KINDS) {
      Sentences.refused(x, "graft(0, " + kind + ")", () -> x.graft(0, kind), OUTSIDE);
    }
  }

  // ---- 12, 13, 14, 18: what is told of who begins

  private static void beginners() {
    test(12, "WINS: 0 WHITE, 1 DARK.", EdgeTest::winnersTold);
    test(12, "OUTSIDE: begins (0, 1)", () -> noSides("wins", HedgeGame::wins));
    test(12, "STATE: no HEDGE.", () -> noHedgeFor("wins", HedgeGame::wins));
    test(13, "BEST; NONE.", EdgeTest::bestTold);
    test(13, "OUTSIDE: begins", () -> noSides("best", HedgeGame::best));
    test(13, "STATE: no HEDGE.", () -> noHedgeFor("best", HedgeGame::best));
    test(14, "LASTS.", EdgeTest::lastsTold);
    test(14, "OUTSIDE: begins", () -> noSides("lasts", HedgeGame::lasts));
    test(14, "STATE: no HEDGE.", () -> noHedgeFor("lasts", HedgeGame::lasts));
    test(18, "LIKELY.", EdgeTest::likelyTold);
    test(18, "OUTSIDE: begins", () -> noSides("likely", HedgeGame::likely));
    test(18, "STATE: no HEDGE.", () -> noHedgeFor("likely", HedgeGame::likely));
  }

  private interface OfWhoBegins {
    int of(HedgeGame x, int begins);
  }

  private static void noSides(String call, OfWhoBegins made) {
    HedgeGame x = of("w-,d0");
    for (int begins : Sentences.NO_SIDES) {
      Sentences.refused(x, call + "(" + begins + ")", () -> made.of(x, begins), OUTSIDE);
    }
    for (int begins = 0; begins < 2; begins++) {
      int got = made.of(x, begins);
      due(call + "(" + begins + ") is answered", got >= 0 ? 1 : got, 1);
    }
  }

  private static void noHedgeFor(String call, OfWhoBegins made) {
    HedgeGame x = page("w-");
    for (int side = 0; side < 2; side++) {
      int begins = side;
      Sentences.refused(x, call + "(" + begins + ")", () -> made.of(x, begins), STATE);
    }
    x.hedge();
    due(call + "(0) with a HEDGE", made.of(x, 0) >= 0 ? 1 : 0, 1);
  }

  private static void winnersTold() {
    HedgeGame x = of("w-,b-,d-");
    due("wins(0)", x.wins(0), 0);
    due("wins(1)", x.wins(1), 1);
    x.pass();
    due("wins(0), whoever's turn it is", x.wins(0), 0);
    x.graft(1, 3);
    due("wins(0), even", x.wins(0), 1);
    due("wins(1), even", x.wins(1), 0);
  }

  private static void bestTold() {
    due("best(0), the first", of(Sentences.onGround('w', 8)).best(0), 0);
    due("best(1), the last", of("w-,w-,w-,w-,w-,w-,w-,d-").best(1), 7);
    due("best(1), none", of(Sentences.onGround('w', 8)).best(1), NONE);
    due("best(0), none", of(Sentences.onGround('i', 8)).best(0), NONE);
  }

  private static void lastsTold() {
    due("lasts(0), none", of("i-").lasts(0), 0);
    due("lasts(1), eight", of(Sentences.onGround('b', 8)).lasts(1), 8);
    due("lasts(0), one", of(Sentences.onGround('w', 8)).lasts(0), 1);
    due("lasts(1), none", of(Sentences.onGround('w', 8)).lasts(1), 0);
  }

  private static void likelyTold() {
    due("likely(0), never", of("d-").likely(0), 0);
    due("likely(1), never", of("d-").likely(1), 0);
    due("likely(0), always", of("w-").likely(0), 1000000);
    due("likely(1), always", of("w-").likely(1), 1000000);
    due("likely(0), eight", of("b-,b0,b0,b0,b0,b0,b0,b0").likely(0), 500000);
  }

  // ---- 15, 16, 17: worth, tree, even

  private static void worthAndTree() {
    test(15, "WORTH, as so many of 256", EdgeTest::worthTold);
    test(15, "NO_WORTH: none.", EdgeTest::worthless);
    test(15, "STATE: no HEDGE.", EdgeTest::worthWithoutHedge);
    test(16, "TREE, as so many of 256", EdgeTest::treeTold);
    test(16, "NO_WORTH: none.", EdgeTest::treeWorthless);
    test(16, "UNKNOWN", EdgeTest::treeUnknown);
    test(16, "STATE: it is not on the ground.", EdgeTest::treeNotOnGround);
  }

  private static void worthTold() {
    Sentences.worthIs("i-", 0);
    Sentences.worthIs(Sentences.chain("wwwwwwww"), 2048);
    Sentences.worthIs(Sentences.chain("dddddddd"), -2048);
    Sentences.worthIs(Sentences.chain("wddddddd"), 2);
    Sentences.worthIs(Sentences.chain("dwwwwwww"), -2);
    Sentences.worthIs(Sentences.chain("wwwwwwwd"), 6 * 256 + 128);
  }

  private static void worthless() {
    Sentences.worthIs("b-", NO_WORTH);
    Sentences.worthIs(Sentences.onGround('b', 8), NO_WORTH);
    Sentences.worthIs("w-,w-,w-,w-,w-,w-,w-,b-", NO_WORTH);
    HedgeGame x = of("b-,w-");
    x.cut(0);
    due("worth(), the plain one fallen", x.worth(), 256);
    x.grow(0);
    due("worth(), the plain one grown", x.worth(), NO_WORTH);
  }

  private static void worthWithoutHedge() {
    HedgeGame x = page("w-");
    Sentences.refused(x, "worth()", x::worth, STATE);
    x.hedge();
    due("worth() with a HEDGE", x.worth(), 256);
  }

  private static void treeTold() {
    HedgeGame x = of(Sentences.onGround('d', 7) + ",w-");
    for (int branch = 0; branch < 8; branch++) {
      due("tree(" + branch + ")", x.tree(branch), branch == 7 ? 256 : -256);
    }
    x.cut(7);
    due("tree(7), fallen", x.tree(7), 0);
    due("tree(0) of eight", of(Sentences.chain("wddddddd")).tree(0), 2);
    due("tree(0) of eight", of(Sentences.chain("dddddddd")).tree(0), -2048);
  }

  private static void treeWorthless() {
    HedgeGame x = of("b-,w-,b1,i-");
    due("tree(0)", x.tree(0), NO_WORTH);
    due("tree(1)", x.tree(1), NO_WORTH);
    due("tree(3)", x.tree(3), 0);
    x.cut(2);
    due("tree(1), its plain one fallen", x.tree(1), 256);
    due("tree(0)", x.tree(0), NO_WORTH);
  }

  private static void treeUnknown() {
    HedgeGame x = of("w-,d-");
    unknownBranches(x, "tree", x::tree);
    due("tree(0), no HEDGE", new HedgeGame().tree(0), UNKNOWN);
  }

  private static void treeNotOnGround() {
    HedgeGame x = of("w-,d0,d1");
    Sentences.refused(x, "tree(1)", () -> x.tree(1), STATE);
    Sentences.refused(x, "tree(2)", () -> x.tree(2), STATE);
    x.cut(0);
    Sentences.refused(x, "tree(1), fallen", () -> x.tree(1), STATE);
    due("tree(0), fallen", x.tree(0), 0);
  }

  private static void even() {
    test(17, "EVEN; -2; NONE.", EdgeTest::evenTold);
    test(17, "STATE: no HEDGE", EdgeTest::evenWithoutHedge);
    test(17, "or even() was done 30 times", EdgeTest::thirtyEvens);
  }

  private static void evenTold() {
    due("even(), the first as the first", of("i-,b-").even(), 0);
    due("even(), the last as the fourth", of(Sentences.chain("iiiiiiiw")).even(), 73);
    due("even() as it is", of(Sentences.onGround('i', 8)).even(), -2);
    due("even(), none", of(Sentences.onGround('w', 8)).even(), NONE);
  }

  private static void evenWithoutHedge() {
    HedgeGame x = page("w-");
    Sentences.refused(x, "even()", x::even, STATE);
    due("count(10): it was not done", x.count(10), 0);
    x.hedge();
    for (int times = 1; times <= 30; times++) {
      due("even() with a HEDGE", x.even(), 3);
    }
  }

  private static void thirtyEvens() {
    String[] texts = {"w-", "i-", "w-,w-,w-"};
    int[] told = {3, -2, NONE};
    HedgeGame x = new HedgeGame();
    for (int times = 0; times < 30; times++) {
      if (times % 10 == 0) {
        Sentences.type(x, texts[times / 10]).hedge();
      }
      due("even() behind " + times, x.even(), told[times / 10]);
      due("count(10)", x.count(10), times + 1);
    }
    Sentences.refused(x, "even(), the 31st", x::even, STATE);
    Sentences.refused(x, "even(), the 32nd", x::even, STATE);
    due("count(10)", x.count(10), 30);
  }

  // ---- 19, 20: see, forget

  private static void seeing() {
    test(19, "It is SEEN: how much is.", EdgeTest::howMuchIsSeen);
    test(19, "UNKNOWN: branch", EdgeTest::seeUnknown);
    test(19, "OUTSIDE: begins", EdgeTest::seeOutside);
    test(19, "FULL.", EdgeTest::seenFull);
    test(20, "Nothing is SEEN any more: how much was.", EdgeTest::forgotten);
  }

  private static void howMuchIsSeen() {
    HedgeGame x = of("w-,d-");
    for (int times = 1; times <= 6; times++) {
      due("see(0, 0, false)", x.see(0, 0, false), times);
      due("count(7)", x.count(7), times);
    }
    HedgeGame fallen = of("w-,d-");
    fallen.cut(0);
    due("see of what does not STAND", fallen.see(0, 1, true), 1);
    due("branch(0, 6)", fallen.branch(0, 6), 31);
  }

  private static void seeUnknown() {
    HedgeGame x = of("w-,d-");
    unknownBranches(x, "see(.., 0, true)", branch -> x.see(branch, 0, true));
    unknownBranches(x, "see(.., 1, false)", branch -> x.see(branch, 1, false));
    due("count(7)", x.count(7), 0);
    due("see(0, 0, true), no HEDGE", new HedgeGame().see(0, 0, true), UNKNOWN);
  }

  private static void seeOutside() {
    HedgeGame x = of("w-,d-");
    for (int begins : Sentences.NO_SIDES) {
      Sentences.refused(x, "see(0, " + begins + ", true)", () -> x.see(0, begins, true), OUTSIDE);
      Sentences.refused(x, "see(1, " + begins + ", false)", () -> x.see(1, begins, false), OUTSIDE);
    }
    due("see(0, 0, true)", x.see(0, 0, true), 1);
    due("see(0, 1, true)", x.see(0, 1, true), 2);
  }

  private static void seenFull() {
    HedgeGame x = of("w-,i-");
    for (int times = 0; times < 5; times++) {
      x.see(0, 0, true);
    }
    due("see(0, 0, true), the 6th", x.see(0, 0, true), 6);
    Sentences.refused(x, "see(0, 0, true), the 7th", () -> x.see(0, 0, true), FULL);
    Sentences.refused(x, "see(1, 1, false), the 7th", () -> x.see(1, 1, false), FULL);
    due("branch(0, 6): the six stay", x.branch(0, 6), 19);
    due("branch(1, 6): the 7th is not SEEN", x.branch(1, 6), 31);
  }

  private static void forgotten() {
    due("forget(), no HEDGE", new HedgeGame().forget(), 0);
    HedgeGame x = of("w-");
    due("forget(), nothing", x.forget(), 0);
    for (int times = 0; times < 6; times++) {
      x.see(0, 0, false);
    }
    due("forget(), six", x.forget(), 6);
    due("count(7)", x.count(7), 0);
    due("branch(0, 6)", x.branch(0, 6), 31);
    due("forget() again", x.forget(), 0);
    for (int times = 1; times <= 6; times++) {
      due("see, room again", x.see(0, 1, true), times);
    }
    due("branch(0, 6): the new ones alone", x.branch(0, 6), 5);
  }

  // ---- 21: games

  private static void games() {
    test(21, "what = 0 how many, 1 how many CUTS, 2 the SEED then", EdgeTest::gamesTold);
    test(21, "OUTSIDE: times (1 to 40)", EdgeTest::timesOutside);
    test(21, "seed (0 at least)", EdgeTest::seedOutside);
    test(21, "OUTSIDE: .. what", EdgeTest::gamesWhatOutside);
    test(21, "STATE: no HEDGE.", EdgeTest::gamesWithoutHedge);
  }

  private static void gamesTold() {
    HedgeGame x = of("w-");
    int[] want = {2, 1, 12345};
    for (int what = 0; what < 3; what++) {
      due("games(2, 0, " + what + ")", x.games(2, 0, what), want[what]);
    }
    HedgeGame most = of("b-,b-,b-,b-,b-,b-,b-,b-");
    due("games(40, 0, 1), eight CUTS each", most.games(40, 0, 1), 320);
    due("games(40, 0, 0): who begins loses", most.games(40, 0, 0), 20);
    due("count(3): they are no CUTS of this one", most.count(3), 0);
  }

  private static void timesOutside() {
    HedgeGame x = of("w-,d-");
    for (int times : new int[] {0, 41, -1, MIN, MAX}) {
      for (int whats = 0; whats < 3; whats++) {
        int what = whats;
        Sentences.refused(x, "games(" + times + ", 0, " + what + ")", () -> x.games(times, 0, what), OUTSIDE);
      }
    }
    due("games(1, 0, 1)", x.games(1, 0, 1), 2);
    due("games(40, 0, 1)", x.games(40, 0, 1), 80);
  }

  private static void seedOutside() {
    HedgeGame x = of("i-");
    for (int seed : new int[] {-1, MIN}) {
      Sentences.refused(x, "games(1, " + seed + ", 0)", () -> x.games(1, seed, 0), OUTSIDE);
    }
    due("games(1, 0, 2)", x.games(1, 0, 2), 0);
    due("games(1, MAX, 2)", x.games(1, MAX, 2), MAX);
  }

  private static void gamesWhatOutside() {
    HedgeGame x = of("w-,d-");
    for (int what : new int[] {-1, 3, MIN, MAX}) {
      Sentences.refused(x, "games(1, 0, " + what + ")", () -> x.games(1, 0, what), OUTSIDE);
    }
  }

  private static void gamesWithoutHedge() {
    HedgeGame x = page("w-");
    Sentences.refused(x, "games(1, 0, 0)", () -> x.games(1, 0, 0), STATE);
    Sentences.refused(x, "games(40, MAX, 2)", () -> x.games(40, MAX, 2), STATE);
    x.hedge();
    due("games(1, 0, 0) with a HEDGE", x.games(1, 0, 0), 1);
  }

  // ---- 22, 23: image, restore

  private static void images() {
    test(22, "An IMAGE is kept (one; the latest)", EdgeTest::latestImage);
    test(22, "how many CUTS there were", EdgeTest::cutsOfImage);
    test(22, "STATE: no HEDGE.", EdgeTest::imageWithoutHedge);
    test(23, "It goes on from the IMAGE: how many CUTS there were.", EdgeTest::goesOn);
    test(23, "STATE: none was kept", EdgeTest::noImageKept);
    test(23, "or there is another HEDGE since", EdgeTest::anotherSince);
  }

  private static void latestImage() {
    HedgeGame x = of("b-,b-,b-");
    x.image();
    x.cut(0);
    x.image();
    x.cut(1);
    due("restore()", x.restore(), 1);
    due("restore() again: no earlier one comes back", x.restore(), 1);
    due("count(1)", x.count(1), 2);
  }

  private static void cutsOfImage() {
    HedgeGame x = of("b-,b-");
    due("image(), none", x.image(), 0);
    x.cut(0);
    x.grow(0);
    due("image(), one", x.image(), 1);
    x.pass();
    x.cut(1);
    due("image(), two", x.image(), 2);
    due("count(3)", x.count(3), 2);
  }

  private static void imageWithoutHedge() {
    HedgeGame x = page("w-");
    Sentences.refused(x, "image()", x::image, STATE);
    x.hedge();
    due("restore(): none was kept", x.restore(), STATE);
  }

  private static void goesOn() {
    HedgeGame x = of("b-,w0,d0,t-");
    x.see(1, 0, true);
    x.image();
    long kept = x.digest();
    for (int times = 0; times < 3; times++) {
      x.cut(1);
      x.graft(3, 2);
      x.see(0, 1, true);
      due("digest() is another", x.digest() == kept ? 1 : 0, 0);
      due("restore()", x.restore(), 0);
      due("digest() is that of the IMAGE", x.digest(), kept);
    }
    due("cut(1): it goes on", x.cut(1), 1);
  }

  private static void noImageKept() {
    HedgeGame none = page("w-");
    Sentences.refused(none, "restore(), no HEDGE", none::restore, STATE);
    HedgeGame x = of("w-");
    x.cut(0);
    Sentences.refused(x, "restore()", x::restore, STATE);
    due("image()", x.image(), 1);
    due("restore()", x.restore(), 1);
  }

  private static void anotherSince() {
    HedgeGame x = of("w-,d-");
    x.image();
    Sentences.type(x, "w-,d-").hedge();
    Sentences.refused(x, "restore(), the text being the same", x::restore, STATE);
    x.cut(0);
    due("image() of the other", x.image(), 1);
    x.cut(1);
    due("restore() of the other", x.restore(), 1);
    Sentences.type(x, "w-,x").hedge();
    due("restore() behind a refused hedge()", x.restore(), 1);
  }

  // ---- 24, 25: count, digest

  private static void counts() {
    test(24, "0 BRANCHES, 1 that STAND, 2 whose turn it is, 3 CUTS", EdgeTest::countsOfHedge);
    test(24, "4, 5 that WHITE, DARK may CUT, 6 on the ground", EdgeTest::countsOfKinds);
    test(24, "7 what is SEEN, 8 letters of THE PAGE", EdgeTest::countsOfSeen);
    test(24, "9 how often a HEDGE was read", EdgeTest::countOfReads);
    test(24, "10 how often even() was done", EdgeTest::countOfEvens);
    test(24, "OUTSIDE.", EdgeTest::countOutside);
  }

  private static void countsOfHedge() {
    HedgeGame x = of(Sentences.onGround('b', 8));
    for (int cuts = 0; cuts < 8; cuts++) {
      due("count(0)", x.count(0), 8);
      due("count(1)", x.count(1), 8 - cuts);
      due("count(2)", x.count(2), cuts % 2);
      due("count(3)", x.count(3), cuts);
      x.cut(cuts);
    }
    due("count(1), none STANDS", x.count(1), 0);
    due("count(3)", x.count(3), 8);
    x.grow(0);
    due("count(1), grown", x.count(1), 1);
    due("count(3), grown", x.count(3), 8);
  }

  private static void countsOfKinds() {
    countsAre("i-,i0,i1,i2,i3,i4,i5,i6", 0, 0, 1);
    countsAre(Sentences.onGround('b', 8), 8, 8, 8);
    countsAre(Sentences.onGround('t', 8), 8, 0, 8);
    countsAre(Sentences.chain("tttttttt"), 1, 0, 1);
    countsAre("b-,w-,d-,d2,i-,t-,t5", 3, 3, 5);
    HedgeGame x = of("b-,w0,d0");
    x.cut(0);
    due("count(4), none STANDS", x.count(4), 0);
    due("count(5), none STANDS", x.count(5), 0);
    due("count(6), none STANDS", x.count(6), 1);
  }

  private static void countsAre(String text, int white, int dark, int ground) {
    due("count(4) of " + text, of(text).count(4), white);
    due("count(5) of " + text, of(text).count(5), dark);
    due("count(6) of " + text, of(text).count(6), ground);
  }

  private static void countsOfSeen() {
    HedgeGame x = of("w-");
    due("count(7), none", x.count(7), 0);
    for (int times = 0; times < 7; times++) {
      x.see(0, 0, true);
    }
    due("count(7), six", x.count(7), 6);
    due("count(8), none", x.count(8), 0);
    Sentences.type(x, FULL_PAGE + "a");
    due("count(8), 26", x.count(8), 26);
  }

  private static void countOfReads() {
    HedgeGame x = new HedgeGame();
    due("count(9), none", x.count(9), 0);
    x.hedge();
    due("count(9), refused", x.count(9), 0);
    for (int times = 1; times <= 30; times++) {
      Sentences.type(x, "w-").hedge();
      due("count(9)", x.count(9), times);
      x.hedge();
      due("count(9), refused", x.count(9), times);
    }
  }

  private static void countOfEvens() {
    HedgeGame x = new HedgeGame();
    x.even();
    due("count(10), refused", x.count(10), 0);
    Sentences.type(x, "w-").hedge();
    x.image();
    for (int times = 1; times <= 31; times++) {
      x.even();
      due("count(10)", x.count(10), Math.min(times, 30));
    }
    x.restore();
    due("count(10), no IMAGE brings it back", x.count(10), 30);
    Sentences.type(x, "w-").hedge();
    due("count(10), with another HEDGE", x.count(10), 30);
  }

  private static void countOutside() {
    HedgeGame none = new HedgeGame();
    HedgeGame x = of("w-");
    for (int what : new int[] {-1, 11, MIN, MAX}) {
      Sentences.refused(none, "count(" + what + "), no HEDGE", () -> none.count(what), OUTSIDE);
      Sentences.refused(x, "count(" + what + ")", () -> x.count(what), OUTSIDE);
    }
  }

  private static void digests() {
    test(25, "h is 1283", EdgeTest::digestOfNothing);
    test(25, "31 times h, and it (as longs, wrapping)", EdgeTest::digestWraps);
    test(25, "of each BRANCH what branch() tells for 0 to 7", EdgeTest::digestOfBranches);
    test(25, "with a HEDGE what wins(), best(), lasts(), likely() tell for 0, then for 1, then worth()", EdgeTest::digestWithout);
    test(25, "letters of THE PAGE", EdgeTest::digestOfPage);
  }

  private static void digestOfNothing() {
    BigInteger h = BigInteger.valueOf(1283).multiply(BigInteger.valueOf(31).pow(11));
    due("digest() of a new object", new HedgeGame().digest(), h.longValue());
  }

  private static void digestWraps() {
    for (String text : new String[] {"i-", "w-,d0,t-", Sentences.chain("wdbtiwdb"), Sentences.onGround('b', 8)}) {
      HedgeGame x = of(text);
      x.see(0, 0, true);
      Sentences.type(x, "~ ");
      due("digest() of " + text, x.digest(), digestOf(x, "~ "));
      x.cut(0);
      due("digest() of " + text + ", CUT", x.digest(), digestOf(x, "~ "));
    }
  }

  private static void digestOfBranches() {
    // SORTS and LET, the last two that branch() tells, come by what is SEEN alone.
    HedgeGame x = of("w-,d-");
    HedgeGame y = of("w-,d-");
    x.see(0, 1, true);
    y.see(0, 1, false);
    due("digest(), other things SEEN", x.digest() == y.digest() ? 1 : 0, 0);
    due("digest()", x.digest(), digestOf(x, ""));
    due("digest()", y.digest(), digestOf(y, ""));
  }

  private static void digestWithout() {
    HedgeGame x = page("w-");
    due("digest(), no HEDGE", x.digest(), digestOf(x, "w-"));
    x.hedge();
    due("digest(), with a HEDGE", x.digest(), digestOf(x, ""));
    x.cut(0);
    due("digest(), nothing STANDS", x.digest(), digestOf(x, ""));
  }

  private static void digestOfPage() {
    HedgeGame x = page(FULL_PAGE);
    due("digest(), 26 letters", x.digest(), digestOf(x, FULL_PAGE));
    x.blank();
    due("digest(), no letter", x.digest(), new HedgeGame().digest());
    due("digest(), the same letters in another order", page("ab").digest() == page("ba").digest() ? 1 : 0, 0);
  }

  private static long digestOf(HedgeGame x, String letters) {
    BigInteger[] h = {BigInteger.valueOf(1283)};
    int number = x.count(0);
    for (int branch = 0; branch < number; branch++) {
      for (int what = 0; what <= 7; what++) {
        add(h, x.branch(branch, what));
      }
    }
    for (int side = 0; side < 2 && number > 0; side++) {
      add(h, x.wins(side));
      add(h, x.best(side));
      add(h, x.lasts(side));
      add(h, x.likely(side));
    }
    if (number > 0) {
      add(h, x.worth());
    }
    for (int branch = 0; branch < number; branch++) {
      if (x.branch(branch, 1) == NONE) {
        add(h, x.tree(branch));
      }
    }
    for (char letter : letters.toCharArray()) {
      add(h, letter);
    }
    for (int what = 0; what <= 10; what++) {
      add(h, x.count(what));
    }
    return h[0].longValue();
  }

  private static void add(BigInteger[] h, int number) {
    h[0] = h[0].multiply(BigInteger.valueOf(31)).add(BigInteger.valueOf(number));
  }
}
