/**
 * One test for each sentence under 'What it is' and 'Terms' of the document that names a boundary case: the least and the most,
 * nothing and all, a tie, a wrap-around, a refusal. Each would fail if its sentence were broken.
 */
public final class TermsTest {
  private static final int NONE = Sentences.NONE, UNKNOWN = Sentences.UNKNOWN, OUTSIDE = Sentences.OUTSIDE;
  private static final int STATE = Sentences.STATE, FULL = Sentences.FULL, NO_WORTH = Sentences.NO_WORTH;
  private static final int MAX = Sentences.MAX;

  /** SEEDS by which the next one is just below and at one time 65536, at two times, 0, and the greatest there is. */
  private static final int TO_65535 = 2032319262, TO_65536 = 1742513795, TO_131071 = 1686616862, TO_131072 = 1396811395;
  private static final int TO_ZERO = 2088216195, TO_THE_GREATEST = 230538014;

  public static void main(String[] args) {
    hedges();
    cuts();
    whoWins();
    worths();
    evens();
    chances();
    seen();
    games();
    refusals();
    Sentences.end();
  }

  private static void test(String words, Runnable body) {
    Sentences.test("Terms", words, body);
  }

  private static void due(String call, long got, long want) {
    Sentences.due(call, got, want);
  }

  private static HedgeGame of(String text) {
    return Sentences.of(text);
  }

  private static void faultIs(String text, int want) {
    due("fault() of " + text, Sentences.page(text).fault(), want);
  }

  // ---- 1: a HEDGE, and what is CUT

  private static void hedges() {
    test("one to eight BRANCHES", TermsTest::oneToEight);
    test("(numbered from 0)", TermsTest::numberedFromZero);
    test("with \",\" between", TermsTest::commasBetween);
    test("each a letter, the KIND", TermsTest::lettersOfKinds);
    test("the number of a BRANCH ahead of it (told by its digit)", TermsTest::digitsAhead);
    test("or \"-\" (on the ground)", TermsTest::onTheGround);
    test("An object is used for at most 512 calls after it has been made", TermsTest::theLastCall);
    test("At first there is none", TermsTest::atFirst);
    test("then all STAND, nobody has cut, it is WHITE's turn (0; DARK's is 1)", TermsTest::thenAllStand);
    test("KINDS are told by the letter", TermsTest::kindsByLetter);
    test("All are BRANCHES; a TIP is WHITE, too.", TermsTest::tipIsWhite);
  }

  private static void oneToEight() {
    HedgeGame none = new HedgeGame();
    due("hedge() of nothing", none.hedge(), STATE);
    for (int number = 1; number <= 8; number++) {
      due("count(0) of " + number, of(Sentences.onGround('i', number)).count(0), number);
    }
    HedgeGame nine = Sentences.page(Sentences.onGround('i', 9));
    due("count(8) of nine", nine.count(8), 26);
    due("fault() of nine", nine.fault(), 23);
    due("hedge() of nine", nine.hedge(), STATE);
    due("count(0) of nine", nine.count(0), 0);
  }

  private static void numberedFromZero() {
    HedgeGame x = of("w-,d-");
    due("branch(-1, 0)", x.branch(-1, 0), UNKNOWN);
    due("branch(0, 0)", x.branch(0, 0), 1);
    due("branch(1, 0)", x.branch(1, 0), 2);
    due("branch(2, 0)", x.branch(2, 0), UNKNOWN);
  }

  private static void commasBetween() {
    faultIs(",b-", 0);
    faultIs("b,-", 1);
    faultIs("b-b-", 2);
    faultIs("b- ,b-", 2);
    faultIs("b-;b-", 2);
    faultIs("b-,,b-", 3);
    faultIs("b-,b-", 5);
    due("hedge() with a comma behind", Sentences.page("b-,").hedge(), STATE);
  }

  private static void lettersOfKinds() {
    for (int code = 32; code <= 126; code++) {
      HedgeGame x = new HedgeGame();
      x.letter(code);
      x.letter('-');
      due("hedge() with the letter " + code, x.hedge(), "bwdit".indexOf(code) >= 0 ? 1 : STATE);
    }
  }

  private static void digitsAhead() {
    for (int branch = 0; branch < 8; branch++) {
      for (int digit = 0; digit <= 9; digit++) {
        String text = Sentences.onGround('w', branch) + (branch == 0 ? "w" : ",w") + digit;
        HedgeGame x = Sentences.page(text);
        due("hedge() of " + text, x.hedge(), digit < branch ? branch + 1 : STATE);
        due("branch(" + branch + ", 1) of " + text, x.branch(branch, 1), digit < branch ? digit : UNKNOWN);
      }
    }
  }

  private static void onTheGround() {
    HedgeGame all = of(Sentences.onGround('t', 8));
    for (int branch = 0; branch < 8; branch++) {
      due("branch(" + branch + ", 1)", all.branch(branch, 1), NONE);
    }
    due("count(6), all", all.count(6), 8);
    due("count(6), the first alone", of(Sentences.chain("tttttttt")).count(6), 1);
  }

  private static void theLastCall() {
    HedgeGame x = Sentences.page(Sentences.chain("wdbitwdb"));
    x.hedge();
    for (int call = 25; call <= 511; call++) {
      due("pass(), call " + call, x.pass(), (call - 25) % 2);
    }
    HedgeGame fresh = of(Sentences.chain("wdbitwdb"));
    fresh.pass();
    due("digest(), the 512th call", x.digest(), fresh.digest());
  }

  private static void atFirst() {
    HedgeGame x = new HedgeGame();
    due("count(0)", x.count(0), 0);
    due("count(1)", x.count(1), 0);
    due("branch(0, 0)", x.branch(0, 0), UNKNOWN);
    due("wins(0)", x.wins(0), STATE);
    Sentences.type(x, "w-");
    due("wins(0), a page but no HEDGE", x.wins(0), STATE);
  }

  private static void thenAllStand() {
    HedgeGame x = of("b-,b-");
    x.cut(0);
    due("count(2): DARK's turn", x.count(2), 1);
    Sentences.type(x, "b-,w0,d1");
    x.hedge();
    due("count(1): all STAND", x.count(1), 3);
    for (int branch = 0; branch < 3; branch++) {
      due("branch(" + branch + ", 2)", x.branch(branch, 2), 1);
    }
    due("count(3): nobody has cut", x.count(3), 0);
    due("count(2): WHITE's turn", x.count(2), 0);
  }

  private static void kindsByLetter() {
    HedgeGame x = of("b-,w-,d-,i-,t-");
    for (int branch = 0; branch < 5; branch++) {
      due("branch(" + branch + ", 0)", x.branch(branch, 0), branch);
    }
  }

  private static void tipIsWhite() {
    HedgeGame x = of("b-,w-,d-,i-,t-");
    for (int branch = 0; branch < 5; branch++) {
      due("as(" + branch + ", 0)", x.as(branch, 0), branch);
      due("as(" + branch + ", 1)", x.as(branch, 1), branch == 1 || branch == 4 ? branch : NONE);
      due("as(" + branch + ", 4)", x.as(branch, 4), branch == 4 ? 4 : NONE);
    }
  }

  private static void cuts() {
    test("WHITE may CUT a BRANCH that STANDS, if that is plain (\"b\"), or WHITE", TermsTest::whiteMay);
    test("or a TIP ON which none is that STANDS", TermsTest::tipsThatAreBare);
    test("DARK, if it is plain, or DARK.", TermsTest::darkMay);
    test("Nobody CUTS IRON.", TermsTest::iron);
    test("What is CUT, and all that is ON it, straight, or by others, STANDS no more.", TermsTest::whatFalls);
    test("They CUT in turn", TermsTest::inTurn);
    test("who may CUT nothing, when it is his turn, has LOST.", TermsTest::whoHasLost);
    test("What does not STAND can GROW again, if that ON which it is STANDS (or it is on the ground)", TermsTest::whatGrows);
    test("whose turn it is stays.", TermsTest::turnStays);
  }

  private static void whiteMay() {
    int[] may = {1, 1, 0, 0};
    for (int kind = 0; kind < 4; kind++) {
      HedgeGame x = of("bwdi".charAt(kind) + "-,i0");
      due("branch(0, 3) of the kind " + kind, x.branch(0, 3), may[kind]);
      due("cut(0) of the kind " + kind, x.cut(0), may[kind] == 1 ? 2 : STATE);
    }
    HedgeGame fallen = of("b-,w0");
    fallen.cut(0);
    fallen.pass();
    for (int branch = 0; branch < 2; branch++) {
      due("branch(" + branch + ", 3), if it does not STAND", fallen.branch(branch, 3), 0);
      due("cut(" + branch + "), if it does not STAND", fallen.cut(branch), STATE);
    }
  }

  private static void tipsThatAreBare() {
    due("branch(0, 3), bare from the beginning", of("t-,b-").branch(0, 3), 1);
    due("branch(0, 4), bare", of("t-").branch(0, 4), 0);
    due("branch(0, 3) under IRON", of("t-,i0").branch(0, 3), 0);
    due("branch(0, 3) under another TIP", of("t-,t0").branch(0, 3), 0);
    HedgeGame two = of("t-,b0,b0,b2");
    due("branch(0, 3) under three", two.branch(0, 3), 0);
    two.cut(3);
    due("branch(0, 3) under two", two.branch(0, 3), 0);
    two.cut(2);
    due("branch(0, 3) under one", two.branch(0, 3), 0);
    due("cut(0) under one", two.cut(0), STATE);
    two.cut(1);
    due("branch(0, 3), bare now", two.branch(0, 3), 1);
    due("branch(0, 4), bare now", two.branch(0, 4), 0);
    two.grow(2);
    due("branch(0, 3), not bare again", two.branch(0, 3), 0);
    two.pass();
    two.cut(2);
    due("cut(0), bare, by DARK", two.cut(0), STATE);
    two.pass();
    due("cut(0), bare, by WHITE", two.cut(0), 1);
  }

  private static void darkMay() {
    int[] may = {1, 0, 1, 0, 0};
    for (int kind = 0; kind < 5; kind++) {
      HedgeGame x = of("bwdit".charAt(kind) + "-");
      x.pass();
      due("branch(0, 4) of the kind " + kind, x.branch(0, 4), may[kind]);
      due("cut(0) of the kind " + kind, x.cut(0), may[kind] == 1 ? 1 : STATE);
    }
  }

  private static void iron() {
    HedgeGame x = of("i-,b0,i-");
    for (int turn = 0; turn < 2; turn++) {
      due("cut(0), turn " + turn, x.cut(0), STATE);
      due("cut(2), turn " + turn, x.cut(2), STATE);
      due("branch(0, 3 + turn)", x.branch(0, 3 + turn), 0);
      x.pass();
    }
    x.cut(1);
    due("cut(0), bare", x.cut(0), STATE);
    HedgeGame under = of("b-,i0");
    due("cut(0): IRON falls with what it is ON", under.cut(0), 2);
    due("branch(1, 2)", under.branch(1, 2), 0);
  }

  private static void whatFalls() {
    for (int branch = 0; branch < 8; branch++) {
      HedgeGame x = of(Sentences.chain("bbbbbbbb"));
      due("cut(" + branch + ") of a chain", x.cut(branch), 8 - branch);
      for (int other = 0; other < 8; other++) {
        due("branch(" + other + ", 2)", x.branch(other, 2), other < branch ? 1 : 0);
      }
    }
    HedgeGame beside = of("b-,b0,b-,b1,b0,b2,b3");
    due("cut(1): straight, and by another", beside.cut(1), 3);
    due("count(1): what is beside it STANDS", beside.count(1), 4);
  }

  private static void inTurn() {
    HedgeGame x = of("w-,w-,d-,d-");
    due("cut(2) by WHITE", x.cut(2), STATE);
    due("cut(0) by WHITE", x.cut(0), 1);
    due("cut(1) by DARK", x.cut(1), STATE);
    due("cut(2) by DARK", x.cut(2), 1);
    due("cut(3) by WHITE", x.cut(3), STATE);
    due("cut(1) by WHITE", x.cut(1), 1);
    due("count(2)", x.count(2), 1);
  }

  private static void whoHasLost() {
    winnersAre("i-", 1, 0);
    winnersAre("w-", 0, 0);
    winnersAre("t-", 0, 0);
    winnersAre("d-", 1, 1);
    winnersAre("b-", 0, 1);
    winnersAre("t-,d0", 1, 0);
    winnersAre("t-,i0", 1, 0);
  }

  private static void winnersAre(String text, int whiteBegins, int darkBegins) {
    due("wins(0) of " + text, of(text).wins(0), whiteBegins);
    due("wins(1) of " + text, of(text).wins(1), darkBegins);
  }

  private static void whatGrows() {
    HedgeGame x = of("b-,i0,i1,b-");
    x.cut(0);
    due("grow(1): that ON which it is does not STAND", x.grow(1), STATE);
    due("grow(2): that ON which it is does not STAND", x.grow(2), STATE);
    due("grow(0): on the ground", x.grow(0), 2);
    due("grow(2): one between is missing", x.grow(2), STATE);
    due("grow(1): that ON which it is STANDS", x.grow(1), 3);
    due("grow(2): that ON which it is STANDS", x.grow(2), 4);
    due("grow(3): it STANDS", x.grow(3), STATE);
  }

  private static void turnStays() {
    HedgeGame x = of("b-,b-");
    x.cut(0);
    x.grow(0);
    due("count(2) of DARK's turn", x.count(2), 1);
    x.cut(1);
    x.grow(1);
    due("count(2) of WHITE's turn", x.count(2), 0);
  }

  // ---- 2: what would be

  private static void whoWins() {
    test("(Of what STANDS now.)", TermsTest::ofNothing);
    test("who wins, if both CUT as well as can be", TermsTest::winners);
    test("which BRANCH to CUT so that he wins: of like ones the least", TermsTest::leastThatWins);
    test("if he does not win by any, which he may CUT so that it goes on longest", TermsTest::longest);
    test("(as LASTS tells, for him who is next); of like ones the least", TermsTest::leastOfLongest);
    test("none, if he may CUT nothing", TermsTest::noBest);
    test("how many CUTS there are in all", TermsTest::noneToEightCuts);
    test("if who wins wants it to be over soon", TermsTest::soon);
    test("and who loses wants it to go on", TermsTest::late);
    test("(each CUT by who wins is such that he wins)", TermsTest::winningCutsAlone);
  }

  private static void ofNothing() {
    HedgeGame x = of("w-,d0");
    x.cut(0);
    due("count(1)", x.count(1), 0);
    due("wins(0)", x.wins(0), 1);
    due("wins(1)", x.wins(1), 0);
    due("best(0)", x.best(0), NONE);
    due("best(1)", x.best(1), NONE);
    due("lasts(0)", x.lasts(0), 0);
    due("lasts(1)", x.lasts(1), 0);
    due("worth()", x.worth(), 0);
    due("tree(0)", x.tree(0), 0);
    due("even()", x.even(), -2);
    due("likely(0)", x.likely(0), 0);
    due("likely(1)", x.likely(1), 1000000);
    due("games(2, 5, 0)", x.games(2, 5, 0), 1);
    due("games(2, 5, 1)", x.games(2, 5, 1), 0);
  }

  private static void winners() {
    winnersAre("b-,b-", 1, 0);
    winnersAre("b-,b0", 0, 1);
    winnersAre("w-,d-", 1, 0);
    winnersAre("w-,d0", 0, 0);
    winnersAre("d-,w0", 1, 1);
    winnersAre(Sentences.onGround('b', 8), 1, 0);
    winnersAre(Sentences.onGround('b', 7), 0, 1);
  }

  private static void leastThatWins() {
    due("best(0): each wins", of("b-,b-,b-").best(0), 0);
    due("best(1): each wins", of("b-,b-,b-").best(1), 0);
    due("best(0): the least, though another is over sooner", of("w-,w-,b-").best(0), 0);
    due("best(0): the least, though another goes on longer", of("b-,w-,w-").best(0), 0);
    due("best(0): the least does not win", of("w-,w0,d-").best(0), 1);
    due("best(1): the least does not win", of("d-,w-,d1").best(1), 2);
    due("best(0): not the least BRANCH, which he may not CUT", of("i-,b-,b-,b-").best(0), 1);
    due("best(0): the last of eight alone", of(Sentences.onGround('i', 7) + ",w6").best(0), 7);
  }

  private static void longest() {
    due("best(0)", of("w-,w0,d-,d-,d-").best(0), 1);
    due("best(1)", of("w-,w-,w-,d-,d3").best(1), 4);
    due("best(0), one alone", of("w-,d-,d-").best(0), 0);
  }

  private static void leastOfLongest() {
    due("best(0)", of("i-,w-,w-,d-,d-,d-").best(0), 1);
    due("best(1)", of("w-,w-,w-,d-,d-").best(1), 3);
    due("best(0) of two plain ones", of("b-,b-").best(0), 0);
  }

  private static void noBest() {
    due("best(1): no DARK one", of("w-,t-,i-").best(1), NONE);
    due("best(0): no WHITE one", of("d-,i-").best(0), NONE);
    due("best(0): no bare TIP", of("t-,d0").best(0), NONE);
  }

  private static void noneToEightCuts() {
    due("lasts(0), nothing to CUT", of("i-").lasts(0), 0);
    due("lasts(1), nothing to CUT", of("i-").lasts(1), 0);
    due("lasts(0), nothing for WHITE", of("d-,d-").lasts(0), 0);
    due("lasts(0), eight", of(Sentences.onGround('b', 8)).lasts(0), 8);
    due("lasts(1), eight", of(Sentences.onGround('b', 8)).lasts(1), 8);
  }

  private static void soon() {
    due("lasts(0): one CUT wins at once, others later", of("w-,w-,b-").lasts(0), 1);
    due("lasts(0): the whole chain at once", of(Sentences.chain("bbbbbbbb")).lasts(0), 1);
  }

  private static void late() {
    due("lasts(0): WHITE loses, CUTS the upper one", of("w-,w0,d-,d-,d-").lasts(0), 4);
    due("lasts(1): DARK loses, CUTS the upper one", of("w-,w-,w-,d-,d3").lasts(1), 4);
  }

  private static void winningCutsAlone() {
    // Both at once would be over by two CUTS, but won by DARK.
    due("lasts(0)", of("w-,w0,d-").lasts(0), 3);
    due("lasts(1)", of("d-,d0,w-").lasts(1), 3);
  }

  private static void worths() {
    test("a number that is told as so many of 256, or none", TermsTest::leastAndMost);
    test("If what each CUT of WHITE's leaves is WORTH a number, and each of DARK's, too", TermsTest::eachLeavesANumber);
    test("and all of WHITE's are less than all of DARK's", TermsTest::lessThanAll);
    test("0, if that is so of 0", TermsTest::zeros);
    test("else the whole number that is nearest to 0 of those that are so", TermsTest::wholes);
    test("if no whole one is, that one of those with the least power of 2 below (there is just one)", TermsTest::fractions);
    test("Else there is none.", TermsTest::noWorth);
    test("TREE for a BRANCH on the ground: WORTH of it and all that is ON it, straight, or by others, alone.", TermsTest::trees);
  }

  private static void leastAndMost() {
    Sentences.worthIs(Sentences.onGround('w', 8), 2048);
    Sentences.worthIs(Sentences.onGround('d', 8), -2048);
    Sentences.worthIs(Sentences.onGround('t', 8), 2048);
    Sentences.worthIs(Sentences.chain("wddddddd"), 2);
    Sentences.worthIs(Sentences.chain("dwwwwwww"), -2);
    Sentences.worthIs(Sentences.chain("wdwwwwww"), 254);
    Sentences.worthIs(Sentences.chain("dwdddddd"), -254);
    Sentences.worthIs("b-", NO_WORTH);
  }

  private static void eachLeavesANumber() {
    Sentences.worthIs("w-,b-", NO_WORTH);
    Sentences.worthIs("d-,b-", NO_WORTH);
    Sentences.worthIs("b-,b-", NO_WORTH);
    Sentences.worthIs("b-,b0", NO_WORTH);
    HedgeGame x = of("w-,w0,b-");
    due("worth() with the plain one", x.worth(), NO_WORTH);
    x.cut(2);
    due("worth() without it", x.worth(), 512);
  }

  private static void lessThanAll() {
    Sentences.worthIs("b-", NO_WORTH);
    Sentences.worthIs("i-,b0", NO_WORTH);
    Sentences.worthIs("w-,b0", NO_WORTH);
    Sentences.worthIs("d-,b0", NO_WORTH);
    Sentences.worthIs("w-,d-", 0);
  }

  private static void zeros() {
    Sentences.worthIs("i-", 0);
    Sentences.worthIs("w-,d-", 0);
    Sentences.worthIs("t-,d0", 0);
    Sentences.worthIs("w-,w-,d-,d-", 0);
    Sentences.worthIs("w-,d0,d-,w2", 0);
    // What WHITE leaves is 0 itself: 0 is not more than that.
    Sentences.worthIs("w-", 256);
    Sentences.worthIs("d-", -256);
  }

  private static void wholes() {
    Sentences.worthIs("w-,w0", 512);
    Sentences.worthIs("d-,d0,d-", -768);
    // Between 0 and 3 there are 1 and 2.
    Sentences.worthIs("w-,t0,t1,d2", 256);
    Sentences.worthIs("t-,d0,d-", -256);
  }

  private static void fractions() {
    Sentences.worthIs("w-,d0", 128);
    Sentences.worthIs("d-,w0", -128);
    Sentences.worthIs("w-,d0,d1", 64);
    Sentences.worthIs("w-,d0,w1", 192);
    Sentences.worthIs("d-,w0,d1", -192);
    Sentences.worthIs("d-,w0,w1", -64);
    Sentences.worthIs("w-,w0,d1,w2", 448);
    Sentences.worthIs("w-,w-,d1", 384);
    Sentences.worthIs("w-,d0,d0", 64);
  }

  private static void noWorth() {
    HedgeGame x = of("w-,d0,i1");
    due("worth()", x.worth(), 128);
    x.graft(2, 0);
    due("worth() with a plain one", x.worth(), NO_WORTH);
    due("tree(0) with a plain one", x.tree(0), NO_WORTH);
  }

  private static void trees() {
    HedgeGame x = of("w-,d-,d0,w1,d2,b-");
    due("tree(0), straight and by another", x.tree(0), 64);
    due("tree(1)", x.tree(1), -128);
    due("tree(5)", x.tree(5), NO_WORTH);
    due("worth() of all", x.worth(), NO_WORTH);
    due("tree(3), not on the ground", x.tree(3), STATE);
    x.cut(5);
    due("tree(5), fallen", x.tree(5), 0);
    x.cut(4);
    due("tree(0), its last one fallen", x.tree(0), 128);
    due("worth() together", x.worth(), 0);
    HedgeGame one = of(Sentences.chain("wdwdwdwd"));
    due("tree(0) of one tree", one.tree(0), one.worth());
  }

  private static void evens() {
    test("which BRANCH to be of which other KIND (STANDING as now)", TermsTest::evenAsNow);
    test("so that who begins does not win, whoever that is", TermsTest::evenForBoth);
    test("told as 10 times the BRANCH and KIND: of like ones the least", TermsTest::leastEven);
    test("-2, if it is so as it is", TermsTest::alreadyEven);
    test("told as 10 times the BRANCH and KIND: .. none", TermsTest::neverEven);
  }

  private static void evenIs(String text, int want) {
    due("even() of " + text, of(text).even(), want);
  }

  private static void evenAsNow() {
    HedgeGame x = of("w-,w-");
    due("even(), both STAND", x.even(), 2);
    x.cut(0);
    due("even(), the second one STANDS", x.even(), 13);
    due("branch(0, 2): it STANDS no more", x.branch(0, 2), 0);
    due("branch(1, 0): the KIND stays", x.branch(1, 0), 1);
    due("count(1)", x.count(1), 1);
  }

  private static void evenForBoth() {
    // As a plain one it is won by who begins; as a DARK one by DARK.
    evenIs("w-", 3);
    evenIs("d-", 3);
    evenIs("b-", 3);
  }

  private static void leastEven() {
    evenIs("i-,i-,d-", 1);
    evenIs("w-,w-", 2);
    evenIs("b-,d0", 4);
    evenIs("i-,b-", 0);
    evenIs(Sentences.chain("iiiiiiiw"), 73);
  }

  private static void alreadyEven() {
    evenIs("i-", -2);
    evenIs("w-,d-", -2);
    evenIs("b-,b-", -2);
    evenIs("t-,d0", -2);
  }

  private static void neverEven() {
    evenIs("w-,w-,w-", NONE);
    evenIs(Sentences.onGround('d', 8), NONE);
    evenIs("w-,d0,d0", NONE);
  }

  private static void chances() {
    test("both CUT by chance, each BRANCH that may be CUT by whose turn it is as likely", TermsTest::asLikely);
    test("by how many of a million, rounded down, WHITE wins", TermsTest::roundedDown);
  }

  private static void asLikely() {
    due("likely(0)", of("b-,b0").likely(0), 500000);
    due("likely(1)", of("b-,b0").likely(1), 500000);
    due("likely(0): two to CUT of three", of("w-,w0,d-").likely(0), 500000);
    due("likely(1): one to CUT of three", of("w-,w0,d-").likely(1), 1000000);
    due("likely(0): a TIP that is not bare is none to CUT", of("t-,w0,d-").likely(0), 1000000);
  }

  private static void roundedDown() {
    due("likely(0), never", of("i-").likely(0), 0);
    due("likely(1), always", of("i-").likely(1), 1000000);
    due("likely(0), two of three", of("b-,b0,b0").likely(0), 666666);
    due("likely(1), one of three", of("b-,b0,b0").likely(1), 333333);
    due("likely(0), four of seven", of("b-,b0,b0,b0,b0,b0,b0").likely(0), 571428);
    due("likely(1), three of seven", of("b-,b0,b0,b0,b0,b0,b0").likely(1), 428571);
  }

  // ---- 3: what is SEEN, GAMES, an IMAGE

  private static void seen() {
    test("SEEN (6 at most)", TermsTest::sixAtMost);
    test("with what STANDS as it is now (at the time of asking)", TermsTest::atTheTimeOfAsking);
    test("a BRANCH being such that its KIND is not known", TermsTest::whateverItsKind);
    test("SORTS (KINDS 0 to 4) it can be of, so that all that is SEEN of it is so: as bits.", TermsTest::sorts);
    test("so that fewest of these are left at worst, by whether he wins", TermsTest::fewestLeft);
    test("of like ones 0", TermsTest::likeOnes);
    test("none, if there are none", TermsTest::letNobody);
  }

  private static void sixAtMost() {
    HedgeGame x = of("w-,d-");
    for (int times = 1; times <= 6; times++) {
      due("see, the " + times + "th", x.see(times % 2, 0, true), times);
    }
    due("see(0, 0, true), the 7th", x.see(0, 0, true), FULL);
    due("see(1, 1, false), the 7th", x.see(1, 1, false), FULL);
    due("count(7)", x.count(7), 6);
    x.forget();
    due("see(0, 0, true), room again", x.see(0, 0, true), 1);
  }

  private static void atTheTimeOfAsking() {
    HedgeGame x = of("w-,w-");
    x.see(0, 0, true);
    due("branch(0, 6) beside WHITE", x.branch(0, 6), 27);
    x.cut(1);
    due("branch(0, 6) alone", x.branch(0, 6), 19);
    x.pass();
    x.cut(0);
    due("branch(0, 6), fallen: nobody wins who begins", x.branch(0, 6), 0);
    x.grow(0);
    x.grow(1);
    due("branch(0, 6) beside WHITE again", x.branch(0, 6), 27);
  }

  private static void whateverItsKind() {
    HedgeGame x = of("w-");
    x.see(0, 1, true);
    for (int kind = 0; kind < 5; kind++) {
      x.graft(0, kind);
      due("branch(0, 6), it being of the kind " + kind, x.branch(0, 6), 5);
      due("branch(0, 7), it being of the kind " + kind, x.branch(0, 7), 0);
    }
  }

  private static void sorts() {
    HedgeGame x = of("w-,i-");
    due("branch(0, 6), nothing SEEN", x.branch(0, 6), 31);
    x.see(0, 0, true);
    due("branch(0, 6), one SEEN", x.branch(0, 6), 19);
    due("branch(1, 6), nothing SEEN of it", x.branch(1, 6), 31);
    x.see(0, 1, false);
    due("branch(0, 6), two SEEN", x.branch(0, 6), 18);
    x.see(0, 1, true);
    due("branch(0, 6), two that cannot be", x.branch(0, 6), 0);
    x.forget();
    x.see(0, 0, false);
    x.see(0, 1, false);
    due("branch(0, 6), who begins does not win", x.branch(0, 6), 8);
    HedgeGame last = of(Sentences.onGround('i', 8));
    last.see(7, 0, true);
    last.see(6, 1, true);
    due("branch(7, 6), SEEN of it", last.branch(7, 6), 19);
    due("branch(6, 6), SEEN of it", last.branch(6, 6), 5);
    due("branch(0, 6), nothing SEEN of it", last.branch(0, 6), 31);
  }

  private static void fewestLeft() {
    // Beside DARK, WHITE wins by none of five; DARK by three.
    due("branch(0, 7)", of("w-,d-").branch(0, 7), 1);
    HedgeGame x = of("w-");
    x.see(0, 0, true);
    due("branch(0, 7) of three: WHITE leaves 3, DARK 2", x.branch(0, 7), 1);
    x.forget();
    x.see(0, 1, false);
    due("branch(0, 7) of three: WHITE leaves 2, DARK 3", x.branch(0, 7), 0);
    x.forget();
    x.see(0, 0, false);
    due("branch(0, 7) of two: WHITE leaves 2, DARK 1", x.branch(0, 7), 1);
  }

  private static void likeOnes() {
    HedgeGame x = of("w-");
    due("branch(0, 7) of five: 3 by each", x.branch(0, 7), 0);
    x.see(0, 0, true);
    x.see(0, 1, true);
    due("branch(0, 7) of one", x.branch(0, 7), 0);
    HedgeGame fallen = of("w-,b-");
    fallen.cut(0);
    due("branch(0, 7), fallen: five by each", fallen.branch(0, 7), 0);
  }

  private static void letNobody() {
    HedgeGame x = of("w-");
    x.see(0, 0, true);
    x.see(0, 0, false);
    due("branch(0, 6)", x.branch(0, 6), 0);
    due("branch(0, 7)", x.branch(0, 7), NONE);
  }

  private static void games() {
    test("so many, each from what STANDS now, begun by WHITE, by DARK, and so on in turn", TermsTest::begunInTurn);
    test("each CUTS that BRANCH, of those he may, by number, which a DRAW of how many there are tells", TermsTest::byNumber);
    test("the next SEED each time: 1103515245 times it and 12345, its rest by 2 to the 31", TermsTest::seedsWrap);
    test("then that by 65536 (rounded down), its rest", TermsTest::drawsAreRests);
    test("An IMAGE keeps KINDS, what STANDS, whose turn it is, how many CUTS there were, SEEN.", TermsTest::imageKeeps);
  }

  private static void gamesAre(String text, int times, int seed, int[] want) {
    HedgeGame x = of(text);
    for (int what = 0; what < 3; what++) {
      due("games(" + times + ", " + seed + ", " + what + ") of " + text, x.games(times, seed, what), want[what]);
    }
  }

  private static void begunInTurn() {
    gamesAre("i-", 1, 5, new int[] {0, 0, 5});
    gamesAre("i-", 2, 5, new int[] {1, 0, 5});
    gamesAre("i-", 3, 5, new int[] {1, 0, 5});
    gamesAre("i-", 40, 5, new int[] {20, 0, 5});
    gamesAre("w-", 2, 0, new int[] {2, 1, 12345});
    HedgeGame x = of("w-,d-");
    long before = x.digest();
    x.games(40, 0, 0);
    due("digest(): it STANDS as it did", x.digest(), before);
    x.cut(0);
    due("games(1, 0, 1) of what STANDS now", x.games(1, 0, 1), 0);
    due("games(2, 0, 1) of what STANDS now", x.games(2, 0, 1), 1);
    HedgeGame dark = of("w-");
    dark.pass();
    due("games(1, 0, 1): begun by WHITE, though it is DARK's turn", dark.games(1, 0, 1), 1);
  }

  private static void byNumber() {
    // WHITE may CUT 1 (with 2 on it) or 2: by the one DARK's is the last cut, by the other WHITE's.
    due("games of a DRAW 0", of("d-,w-,w1").games(1, TO_65535, 0), 0);
    due("games of a DRAW 0", of("d-,w-,w1").games(1, TO_65535, 1), 2);
    due("games of a DRAW 1", of("d-,w-,w1").games(1, TO_65536, 0), 1);
    due("games of a DRAW 1", of("d-,w-,w1").games(1, TO_65536, 1), 3);
  }

  private static void seedsWrap() {
    due("from 0", of("w-").games(1, 0, 2), 12345);
    due("from 1", of("w-").games(1, 1, 2), 1103527590);
    due("from 2: the first one beyond 2 to the 31", of("w-").games(1, 2, 2), 59559187);
    due("from the greatest", of("w-").games(1, MAX, 2), 1043980748);
    due("a DRAW of one is drawn, too", of("w-,d-").games(1, 0, 2), 1406932606);
    due("no CUT, no DRAW", of("d-").games(1, MAX, 2), MAX);
    due("to the greatest", of("w-").games(1, TO_THE_GREATEST, 2), MAX);
    due("to 0", of("w-").games(1, TO_ZERO, 2), 0);
  }

  private static void drawsAreRests() {
    due("65535 by 65536 is 0: the first of two", of("b-,b0").games(1, TO_65535, 1), 1);
    due("65536 by 65536 is 1: the second of two", of("b-,b0").games(1, TO_65536, 1), 2);
    due("131071 by 65536 is 1, rounded down", of("b-,b0").games(1, TO_131071, 1), 2);
    due("131072 by 65536 is 2: its rest by two is 0", of("b-,b0").games(1, TO_131072, 1), 1);
    due("32767: its rest by two is 1", of("b-,b0").games(1, TO_THE_GREATEST, 1), 2);
    due("1: its rest by one is 0", of("b-").games(1, TO_65536, 1), 1);
  }

  private static void imageKeeps() {
    HedgeGame x = of("b-,w0,d-");
    x.cut(1);
    x.graft(2, 4);
    x.see(2, 0, true);
    x.see(0, 0, false);
    x.image();
    x.graft(2, 3);
    x.cut(0);
    x.forget();
    x.see(0, 1, true);
    x.see(1, 1, false);
    x.see(1, 1, true);
    Sentences.type(x, "w-,");
    x.even();
    x.restore();
    due("branch(2, 0): the KIND", x.branch(2, 0), 4);
    due("branch(0, 2): what STANDS", x.branch(0, 2), 1);
    due("branch(1, 2): what does not", x.branch(1, 2), 0);
    due("count(2): whose turn it is", x.count(2), 1);
    due("count(3): how many CUTS there were", x.count(3), 1);
    due("count(7): SEEN", x.count(7), 2);
    due("branch(0, 6): what is SEEN of the first", x.branch(0, 6), 4);
    due("branch(1, 6): what is SEEN of the second", x.branch(1, 6), 31);
    due("branch(2, 6): what is SEEN of the third", x.branch(2, 6), 26);
    due("count(8): THE PAGE is not kept", x.count(8), 3);
    due("count(10): how often even() was done is not kept", x.count(10), 1);
  }

  // ---- refusals

  private static void refusals() {
    test("Refusals, of several the first as told by each call", TermsTest::firstRefusal);
    test("they change nothing", TermsTest::changeNothing);
  }

  private static void firstRefusal() {
    HedgeGame none = new HedgeGame();
    due("wins(2), no HEDGE", none.wins(2), OUTSIDE);
    due("best(2), no HEDGE", none.best(2), OUTSIDE);
    due("lasts(2), no HEDGE", none.lasts(2), OUTSIDE);
    due("likely(2), no HEDGE", none.likely(2), OUTSIDE);
    due("games(0, 0, 0), no HEDGE", none.games(0, 0, 0), OUTSIDE);
    due("branch(0, 8), no HEDGE", none.branch(0, 8), UNKNOWN);
    due("as(0, 5), no HEDGE", none.as(0, 5), UNKNOWN);
    due("graft(0, 5), no HEDGE", none.graft(0, 5), UNKNOWN);
    due("see(0, 2, true), no HEDGE", none.see(0, 2, true), UNKNOWN);
    HedgeGame full = Sentences.page("01234567890123456789012345");
    due("letter(31), THE PAGE full", full.letter(31), OUTSIDE);
    due("letter(127), THE PAGE full", full.letter(127), OUTSIDE);
    HedgeGame x = of("w-");
    for (int times = 0; times < 6; times++) {
      x.see(0, 0, true);
    }
    due("see(1, 2, true), six SEEN", x.see(1, 2, true), UNKNOWN);
    due("see(1, 0, true), six SEEN", x.see(1, 0, true), UNKNOWN);
    due("see(0, 2, true), six SEEN", x.see(0, 2, true), OUTSIDE);
  }

  private static void changeNothing() {
    HedgeGame x = of("w-,d0,b-,t-,i3");
    x.see(1, 0, true);
    x.image();
    long kept = x.digest();
    x.cut(2);
    for (int times = 0; times < 5; times++) {
      x.see(1, 1, false);
    }
    Sentences.type(x, "b-,w-,d-,i-,t-,b-,b-,b-,b-");
    for (int times = 0; times < 30; times++) {
      x.even();
    }
    long before = x.digest();
    int[] answers = {x.letter('b'), x.letter(31), x.hedge(), x.branch(5, 0), x.branch(0, 8), x.as(5, 0), x.as(0, 5), x.cut(5),
      x.cut(0), x.grow(5), x.grow(0), x.graft(5, 0), x.graft(0, 5), x.wins(2), x.best(2), x.lasts(2), x.tree(5), x.tree(1),
      x.even(), x.likely(2), x.see(5, 0, true), x.see(0, 2, true), x.see(0, 0, true), x.games(0, 0, 0), x.games(1, -1, 0),
      x.games(1, 0, 3), x.count(11)};
    int[] want = {FULL, OUTSIDE, STATE, UNKNOWN, OUTSIDE, UNKNOWN, OUTSIDE, UNKNOWN,
      STATE, UNKNOWN, STATE, UNKNOWN, OUTSIDE, OUTSIDE, OUTSIDE, OUTSIDE, UNKNOWN, STATE,
      STATE, OUTSIDE, UNKNOWN, OUTSIDE, FULL, OUTSIDE, OUTSIDE,
      OUTSIDE, OUTSIDE};
    for (int i = 0; i < want.length; i++) {
      due("the refusal " + i, answers[i], want[i]);
    }
    due("digest() behind all refusals", x.digest(), before);
    due("restore(): the IMAGE stays", x.restore(), 0);
    x.blank();
    due("count(10)", x.count(10), 30);
    // The digest ends with what count(10) tells, which no IMAGE brings back.
    due("digest() of the IMAGE", x.digest(), kept + 30);
  }
}
