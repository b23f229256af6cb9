/** The edges of promises 21 to 32: what is owed, suits, sets of wordings and lines, the book, look. */
final class SuitEdges {
  private static final int[] FAR_OFF = {-1, -2, 100, Integer.MIN_VALUE, Integer.MAX_VALUE};

  private SuitEdges() {
  }

  static void test(Sentences s) {
    s.in("Promise 21");
    s.test("OWED by LINE l for facts by THE LAW at SUMMER k;", SuitEdges::owed);
    s.test("NONE if one can't be (age -99 .. 299, years 0 .. 299).", SuitEdges::owedNot);
    s.in("Promise 22");
    s.test("Likewise by THE BOOK", SuitEdges::byBook);
    s.test("(of LINES that are not in it 0).", SuitEdges::notInBook);
    s.in("Promise 23");
    s.test("A SUIT of p against q: its number;", SuitEdges::suit);
    s.test("NONE, and nothing is done, if one can't be (no LINE l; the same; not BORN, or dead),", SuitEdges::suitNot);
    s.test("or there are 100.", SuitEdges::fullSuits);
    s.in("Promise 24");
    s.test("Of SUIT i what 0 p, 1 q, 2 LINE, 3 what is OWED, 4 the SUMMER,", SuitEdges::suitOf);
    s.test("5 1 if PAID, else 0;", SuitEdges::suitPaid);
    s.test("10 + r the part of PERSON r.", SuitEdges::suitParts);
    s.test("NONE if there is none such, or another what.", SuitEdges::suitOfNothing);
    s.in("Promise 25");
    s.test("SUIT i is PAID: true;", SuitEdges::pay);
    s.test("false if there is none such, or it is.", SuitEdges::payNot);
    s.in("Promise 26");
    s.test("FAR;", SuitEdges::far);
    s.test("NONE if one can't be.", SuitEdges::farNot);
    s.in("Promise 27");
    s.test("A TREE of a set of WORDINGS (w counts 2 to the w): what 0 its COST,", SuitEdges::tree);
    s.test("10 + w from which WORDING w comes (NONE: the first).", SuitEdges::treeFrom);
    s.test("NONE if one can't be, of others, or another what.", SuitEdges::treeNot);
    s.in("Promise 28");
    s.test("LOSS of a set of LINES (l counts 2 to the l);", SuitEdges::loss);
    s.test("NONE if one can't be (no LINE).", SuitEdges::lossNot);
    s.in("Promise 29");
    s.test("BEST PLAN: what 0 its cost, 1 how many TEACHINGS,", SuitEdges::plan);
    s.test("10 + p what LINE PERSON p is TAUGHT (NONE: none).", SuitEdges::planLessons);
    s.test("NONE if there is none, one can't be, or another what.", SuitEdges::planNot);
    s.in("Promise 30");
    s.test("LINE l is in THE BOOK in WORDING w (NONE: not any more): true;", SuitEdges::book);
    s.test("false, and nothing is done, if one can't be.", SuitEdges::bookNot);
    s.in("Promise 31");
    s.test("WRONG LINES in THE BOOK, as a set.", SuitEdges::wrong);
    s.in("Promise 32");
    s.test("What 0 NOW, 1 PERSONS, 2 those that live, 3 LINES, 4 DEAD ones, 5 WORDINGS, 6 SUITS, 7 THE SPEAKER (NONE), 8 THE WAY,"
        + " 9 OUTLAWS, 10 LINES in THE BOOK.", SuitEdges::look);
    s.test("NONE - 1 for another what.", SuitEdges::lookNot);
  }

  private static void owed(Check c) {
    LawRock x = Scene.court("marks harm + witnesses * 10 + years * 10 + kin * 4000 + age;");
    c.due("all facts at their least but the age", x.owed(0, 0, 0, 0, 0, 0, 0), 0);
    c.due("the greatest facts", x.owed(0, 0, 99, 9, 299, 1, 299), 7478);
    c.due("the least age", x.owed(0, 0, 99, 9, 0, 0, -99), 90);
    c.due("the least age alone", x.owed(0, 0, 0, 0, 0, 0, -99), 0);
  }

  private static void owedNot(Check c) {
    LawRock x = Scene.court("marks 5;");
    x.book(0, 0);
    int[][] bad = {{-1, 0, 0, 0, 0}, {100, 0, 0, 0, 0}, {0, -1, 0, 0, 0}, {0, 10, 0, 0, 0}, {0, 0, -1, 0, 0}, {0, 0, 300, 0, 0},
        {0, 0, 0, -1, 0}, {0, 0, 0, 2, 0}, {0, 0, 0, 0, -100}, {0, 0, 0, 0, 300}};
    for (int[] f : bad) {
      String facts = f[0] + " " + f[1] + " " + f[2] + " " + f[3] + " " + f[4];
      c.due("owed for " + facts, x.owed(0, 0, f[0], f[1], f[2], f[3], f[4]), -1);
      c.due("byBook for " + facts, x.byBook(0, f[0], f[1], f[2], f[3], f[4]), -1);
    }
    for (int i = 0; i < 5; i++) {
      for (int far : new int[] {Integer.MIN_VALUE, Integer.MAX_VALUE}) {
        int[] f = new int[5];
        f[i] = far;
        c.due("owed for fact " + i + " far off", x.owed(0, 0, f[0], f[1], f[2], f[3], f[4]), -1);
        c.due("byBook for fact " + i + " far off", x.byBook(0, f[0], f[1], f[2], f[3], f[4]), -1);
      }
    }
    c.due("LINE 1", x.owed(1, 0, 0, 0, 0, 0, 0), -1);
    c.due("at NOW", x.owed(0, 1, 0, 0, 0, 0, 0), -1);
    for (int far : FAR_OFF) {
      c.due("LINE " + far, x.owed(far, 0, 0, 0, 0, 0, 0), -1);
      c.due("at " + far, x.owed(0, far, 0, 0, 0, 0, 0), -1);
    }
  }

  private static void byBook(Check c) {
    LawRock x = Scene.court("marks 5;");
    Check.wording(x, "marks harm + witnesses * 10 + years * 10 + kin * 4000 + age;");
    x.book(0, 1);
    c.due("the greatest facts", x.byBook(0, 99, 9, 299, 1, 299), 7478);
    c.due("the least age", x.byBook(0, 99, 9, 0, 0, -99), 90);
    c.due("THE LAW is another", x.owed(0, 0, 99, 9, 299, 1, 299), 5);
    c.due("LINE 1", x.byBook(1, 0, 0, 0, 0, 0), -1);
    for (int far : FAR_OFF) {
      c.due("LINE " + far, x.byBook(far, 0, 0, 0, 0, 0), -1);
    }
    LawRock y = Scene.rockWithLine(0);
    y.book(0, 3);
    c.due("in SUMMER 0", y.byBook(0, 0, 0, 0, 0, 0), 3);
    y.summers(7);
    c.due("of a DEAD LINE", y.byBook(0, 0, 0, 0, 0, 0), 3);
  }

  private static void notInBook(Check c) {
    LawRock x = Scene.court("marks 5;");
    c.due("not in it, though SAID", x.byBook(0, 0, 0, 0, 0, 0), 0);
    c.due("wrong facts all the same", x.byBook(0, 100, 0, 0, 0, 0), -1);
    x.line(0, false);
    Check.wording(x, "marks line 0 + 2;");
    x.book(1, 1);
    c.due("by a LINE that is not in it", x.byBook(1, 0, 0, 0, 0, 0), 2);
    x.book(0, 0);
    c.due("by a LINE that is in it", x.byBook(1, 0, 0, 0, 0, 0), 7);
    x.book(0, -1);
    c.due("by a LINE that is not in it any more", x.byBook(1, 0, 0, 0, 0, 0), 2);
  }

  private static void suit(Check c) {
    LawRock x = Scene.court("marks 5;");
    c.due("the first", x.suit(0, 1, 0, 0, 0, 0), 0);
    c.due("the same again", x.suit(0, 1, 0, 0, 0, 0), 1);
    x.suit(0, 0, 0, 0, 0, 0);
    c.due("no number is lost by a refused call", x.suit(1, 0, 0, 0, 0, 0), 2);
    c.due("SUITS", x.look(6), 3);
  }

  private static void suitNot(Check c) {
    LawRock x = Scene.court("marks 5;");
    x.summers(2);
    x.person(0, 0, 2);
    x.person(0, 0, -5);
    x.dies(3);
    x.suit(0, 1, 0, 0, 0, 0);
    String before = Scene.all(x);
    int[][] bad = {{0, 1, 1, 0, 0, 0}, {0, 1, -1, 0, 0, 0}, {0, 0, 0, 0, 0, 0}, {1, 1, 0, 0, 0, 0}, {2, 0, 0, 0, 0, 1}, {0, 2, 0, 0, 0, 1},
        {3, 0, 0, 0, 0, 1}, {0, 3, 0, 0, 0, 1}, {4, 0, 0, 0, 0, 1}, {0, 4, 0, 0, 0, 1}, {-1, 0, 0, 0, 0, 1}, {0, -1, 0, 0, 0, 1},
        {0, 1, 0, 100, 0, 0}, {0, 1, 0, -1, 0, 0}, {0, 1, 0, 0, 10, 0}, {0, 1, 0, 0, -1, 0}, {0, 1, 0, 0, 0, 4}};
    for (int[] b : bad) {
      String call = "suit " + b[0] + " " + b[1] + " " + b[2] + " " + b[3] + " " + b[4] + " " + b[5];
      c.due(call, x.suit(b[0], b[1], b[2], b[3], b[4], b[5]), -1);
    }
    for (int i = 0; i < 6; i++) {
      for (int far : new int[] {Integer.MIN_VALUE, Integer.MAX_VALUE}) {
        int[] b = {0, 1, 0, 0, 0, 0};
        b[i] = far;
        c.due("suit with " + far + " as the number " + i, x.suit(b[0], b[1], b[2], b[3], b[4], b[5]), -1);
      }
    }
    c.due("nothing is done", Scene.all(x).equals(before), true);
    c.due("the next one's number", x.suit(0, 1, 0, 0, 0, 3), 1);
  }

  private static void fullSuits(Check c) {
    LawRock x = Scene.court("marks harm;");
    for (int i = 0; i < 100; i++) {
      c.due("suit", x.suit(1, 0, 0, i, 0, 0), i);
    }
    c.due("the 101st", x.suit(1, 0, 0, 1, 0, 0), -1);
    c.due("SUITS", x.look(6), 100);
    c.due("pay the last", x.pay(99), true);
    c.due("the 101st though one is PAID", x.suit(1, 0, 0, 1, 0, 0), -1);
    c.due("what is OWED in the last", x.suitOf(99, 3), 99);
  }

  private static void suitOf(Check c) {
    LawRock x = Scene.court("marks 5;");
    Check.wording(x, "marks 7;");
    x.line(1, true);
    x.know(0, 1, 1, 9);
    x.summers(2);
    x.suit(1, 0, 1, 0, 0, 0);
    x.summers(1);
    x.suit(0, 1, 0, 0, 0, 0);
    int[][] due = {{1, 0, 1, 7, 3}, {0, 1, 0, 5, 4}};
    for (int i = 0; i < 2; i++) {
      for (int what = 0; what < 5; what++) {
        c.due("suitOf(" + i + ", " + what + ")", x.suitOf(i, what), due[i][what]);
      }
    }
    x.dies(0);
    c.due("of a dead one", x.suitOf(1, 0), 0);
  }

  private static void suitPaid(Check c) {
    LawRock x = Scene.court("marks 5;");
    x.suit(1, 0, 0, 0, 0, 0);
    x.suit(1, 0, 0, 0, 0, 0);
    x.pay(1);
    c.due("not PAID", x.suitOf(0, 5), 0);
    c.due("PAID", x.suitOf(1, 5), 1);
  }

  private static void suitParts(Check c) {
    LawRock x = Scene.court("marks 9;");
    x.person(0, 0, -30);
    x.person(0, 0, -30);
    x.suit(0, 1, 0, 0, 0, 0);
    int[] due = {5, 0, 2, 2};
    for (int r = 0; r < due.length; r++) {
      c.due("of PERSON " + r, x.suitOf(0, 10 + r), due[r]);
    }
    c.due("of one that is not there", x.suitOf(0, 14), -1);
    x.dies(3);
    x.person(0, 0, -30);
    x.summers(1);
    c.due("of one that died since", x.suitOf(0, 13), 2);
    c.due("of one that came since", x.suitOf(0, 14), 0);
    LawRock y = Scene.court("marks 88;");
    for (int i = 0; i < 22; i++) {
      y.person(0, 0, 0);
    }
    y.suit(0, 1, 0, 0, 0, 0);
    c.due("of PERSON 23", y.suitOf(0, 33), 2);
    c.due("of PERSON 24", y.suitOf(0, 34), -1);
  }

  private static void suitOfNothing(Check c) {
    LawRock x = Scene.court("marks 9;");
    c.due("without SUITS", x.suitOf(0, 0), -1);
    x.suit(0, 1, 0, 0, 0, 0);
    c.due("SUIT 1", x.suitOf(1, 0), -1);
    for (int far : FAR_OFF) {
      c.due("SUIT " + far, x.suitOf(far, 0), -1);
      c.due("what " + far, x.suitOf(0, far), -1);
    }
    for (int what = 6; what < 10; what++) {
      c.due("what " + what, x.suitOf(0, what), -1);
    }
    c.due("the part of a PERSON in SUIT 1", x.suitOf(1, 10), -1);
  }

  private static void pay(Check c) {
    LawRock x = Scene.court("marks harm;");
    x.suit(0, 1, 0, 1, 0, 0);
    x.suit(0, 1, 0, 0, 0, 0);
    c.due("the last, of nothing", x.pay(1), true);
    c.due("the first", x.pay(0), true);
    x.suit(0, 1, 0, 1, 0, 0);
    x.dies(0);
    x.dies(1);
    c.due("when both died", x.pay(2), true);
    c.due("PAID", x.suitOf(2, 5), 1);
  }

  private static void payNot(Check c) {
    LawRock x = Scene.court("marks harm;");
    c.due("without SUITS", x.pay(0), false);
    x.suit(0, 1, 0, 1, 0, 0);
    x.pay(0);
    c.due("it is", x.pay(0), false);
    c.due("SUIT 1", x.pay(1), false);
    for (int far : FAR_OFF) {
      c.due("SUIT " + far, x.pay(far), false);
    }
    c.due("PAID still", x.suitOf(0, 5), 1);
  }

  private static void far(Check c) {
    LawRock x = new LawRock();
    Scene.wordings(x, 32);
    Check.wording(x, "marks 0;");
    c.due("the first and the last", x.far(0, 31), 1);
    c.due("the last and the first", x.far(31, 0), 1);
    c.due("the last and itself", x.far(31, 31), 0);
  }

  private static void farNot(Check c) {
    LawRock x = new LawRock();
    c.due("without WORDINGS", x.far(0, 0), -1);
    Scene.wordings(x, 2);
    c.due("far(0, 2)", x.far(0, 2), -1);
    c.due("far(2, 0)", x.far(2, 0), -1);
    c.due("far(2, 2)", x.far(2, 2), -1);
    for (int far : FAR_OFF) {
      c.due("far(0, " + far + ")", x.far(0, far), -1);
      c.due("far(" + far + ", 0)", x.far(far, 0), -1);
      c.due("far(" + far + ", " + far + ")", x.far(far, far), -1);
    }
  }

  private static LawRock chain() {
    LawRock x = new LawRock();
    Check.wording(x, "marks 1;");
    Check.wording(x, "marks 1+1+1;");
    Check.wording(x, "marks 1+1;");
    return x;
  }

  private static void tree(Check c) {
    LawRock x = chain();
    c.due("0 and 1", x.tree(3, 0), 4);
    c.due("0 and 2", x.tree(5, 0), 2);
    c.due("1 and 2", x.tree(6, 0), 2);
    c.due("all", x.tree(7, 0), 4);
  }

  private static void treeFrom(Check c) {
    LawRock x = chain();
    c.due("0", x.tree(7, 10), -1);
    c.due("1", x.tree(7, 11), 2);
    c.due("2", x.tree(7, 12), 0);
    c.due("the first is 1", x.tree(6, 11), -1);
    c.due("2 from 1", x.tree(6, 12), 1);
  }

  private static void treeNot(Check c) {
    LawRock x = chain();
    c.due("of none", x.tree(0, 0), -1);
    c.due("of one", x.tree(1, 0), -1);
    c.due("with one that is not there", x.tree(9, 0), -1);
    c.due("with one that is not there, from which", x.tree(11, 11), -1);
    c.due("of another", x.tree(3, 12), -1);
    c.due("of one that is not there", x.tree(3, 13), -1);
    for (int what : new int[] {-1, 1, 2, 9, 41, 42, 43, 100, Integer.MIN_VALUE, Integer.MAX_VALUE}) {
      c.due("what " + what, x.tree(3, what), -1);
    }
    c.due("the least int as a set", x.tree(Integer.MIN_VALUE, 0), -1);
    c.due("the greatest int as a set", x.tree(Integer.MAX_VALUE, 0), -1);
    LawRock y = new LawRock();
    Scene.wordings(y, 32);
    c.due("what 42 beside WORDING 0", y.tree(3, 42), -1);
    c.due("what 43 beside WORDING 1", y.tree(3, 43), -1);
  }

  private static void loss(Check c) {
    LawRock x = Scene.rockWithLine(3);
    x.line(0, false);
    Scene.know(x, 1, 1, 1);
    x.know(0, 1, 1, 1);
    c.due("LINE 0", x.loss(1), 3);
    c.due("LINE 1", x.loss(2), 1);
    c.due("both", x.loss(3), 1);
    LawRock y = Scene.rock(24);
    for (int l = 0; l < 24; l++) {
      y.line(0, false);
    }
    for (int p = 0; p < 24; p++) {
      y.know(p, 23, 0, 1);
    }
    c.due("LINE 23, which all 24 HAVE", y.loss(1 << 23), 24);
  }

  private static void lossNot(Check c) {
    LawRock x = Scene.rockWithLine(1);
    c.due("no LINE", x.loss(0), -1);
    c.due("LINE 1", x.loss(2), -1);
    c.due("LINES 0 and 1", x.loss(3), -1);
    c.due("the least int", x.loss(Integer.MIN_VALUE), -1);
    c.due("the greatest int", x.loss(Integer.MAX_VALUE), -1);
    c.due("all bits", x.loss(-1), -1);
    for (int l = 1; l < 24; l++) {
      x.line(0, false);
    }
    c.due("all 24", x.loss(0xffffff), 0);
    c.due("one more", x.loss(0x1000000), -1);
    c.due("all 24 and the highest bit", x.loss(0x80ffffff), -1);
  }

  private static LawRock school() {
    LawRock x = Scene.rock(5);
    x.line(0, false);
    x.line(1, false);
    x.know(4, 0, 1, 5);
    x.know(4, 1, 1, 5);
    return x;
  }

  private static void plan(Check c) {
    LawRock x = school();
    c.due("m 1, cost", x.plan(3, 1, 0), 0);
    c.due("m 1, TEACHINGS", x.plan(3, 1, 1), 0);
    c.due("m 2, cost", x.plan(3, 2, 0), 4);
    c.due("m 2, TEACHINGS", x.plan(3, 2, 1), 2);
    c.due("m 3, cost", x.plan(3, 3, 0), 10);
    c.due("m 3, TEACHINGS", x.plan(3, 3, 1), 4);
    c.due("nothing is TAUGHT by it", x.lineOf(0, 4), 1);
  }

  private static void planLessons(Check c) {
    LawRock x = school();
    int[] due = {0, 1, -1, -1, -1};
    int[] dueThree = {0, 0, 1, 1, -1};
    for (int p = 0; p < 5; p++) {
      c.due("m 2, PERSON " + p, x.plan(3, 2, 10 + p), due[p]);
      c.due("m 3, PERSON " + p, x.plan(3, 3, 10 + p), dueThree[p]);
      c.due("m 1, PERSON " + p, x.plan(3, 1, 10 + p), -1);
    }
  }

  private static void planNot(Check c) {
    LawRock x = school();
    x.line(2, false);
    for (int what : new int[] {0, 1, 10, 14}) {
      c.due("there is none, what " + what, x.plan(7, 1, what), -1);
      c.due("m 0, what " + what, x.plan(3, 0, what), -1);
      c.due("m 4, what " + what, x.plan(3, 4, what), -1);
      c.due("no LINE 3, what " + what, x.plan(9, 1, what), -1);
      c.due("the least int as a set, what " + what, x.plan(Integer.MIN_VALUE, 1, what), -1);
    }
    for (int what : new int[] {2, 9, 15, 33, 34, -1, Integer.MIN_VALUE, Integer.MAX_VALUE}) {
      c.due("another what: " + what, x.plan(3, 2, what), -1);
    }
    c.due("m at the least int", x.plan(3, Integer.MIN_VALUE, 0), -1);
    c.due("m at the greatest int", x.plan(3, Integer.MAX_VALUE, 0), -1);
    x.line(0, false);
    x.line(0, false);
    for (int l = 0; l < 5; l++) {
      x.know(0, l, 0, 9);
    }
    c.due("4 LINES", x.plan(30, 1, 0), 0);
    c.due("5 LINES", x.plan(31, 1, 0), -1);
  }

  private static void book(Check c) {
    LawRock x = Scene.rockWithLine(0);
    c.due("WORDING 0", x.book(0, 0), true);
    c.due("the last WORDING", x.book(0, 4), true);
    c.due("the same again", x.book(0, 4), true);
    c.due("LINES in it", x.look(10), 1);
    c.due("not any more", x.book(0, LawRock.NONE), true);
    c.due("LINES in it", x.look(10), 0);
    c.due("nothing is OWED by it", x.byBook(0, 0, 0, 0, 0, 0), 0);
  }

  private static void bookNot(Check c) {
    LawRock x = Scene.rockWithLine(1);
    x.book(0, 3);
    String before = Scene.all(x);
    c.due("LINE 1", x.book(1, 0), false);
    c.due("LINE 1, not any more", x.book(1, -1), false);
    c.due("WORDING 5", x.book(0, 5), false);
    c.due("WORDING -2", x.book(0, -2), false);
    c.due("WORDING 32", x.book(0, 32), false);
    for (int far : new int[] {-1, -2, 24, Integer.MIN_VALUE, Integer.MAX_VALUE}) {
      c.due("LINE " + far, x.book(far, 0), false);
    }
    c.due("WORDING far down", x.book(0, Integer.MIN_VALUE), false);
    c.due("WORDING far up", x.book(0, Integer.MAX_VALUE), false);
    c.due("nothing is done", Scene.all(x).equals(before), true);
  }

  private static void wrong(Check c) {
    LawRock x = Scene.rock(1);
    c.due("no LINES", x.wrong(), 0);
    for (int l = 0; l < 24; l++) {
      x.line(0, false);
      x.know(0, l, l % 5, 9);
    }
    c.due("an empty BOOK", x.wrong(), 0);
    x.book(0, 0);
    x.book(23, 0);
    c.due("the first and the last", x.wrong(), 1 | 1 << 23);
    x.summers(1);
    c.due("the last", x.wrong(), 1 << 23);
    x.book(23, 3);
    c.due("none", x.wrong(), 0);
  }

  private static void look(Check c) {
    LawRock x = Scene.rock(3);
    x.line(0, false);
    x.line(1, false);
    x.know(0, 0, 3, 9);
    x.book(1, 0);
    x.speaker(0);
    x.way(1);
    x.summers(1);
    x.suit(0, 1, 0, 0, 0, 0);
    x.suit(0, 1, 0, 0, 0, 0);
    x.dies(2);
    x.summers(7);
    int[] due = {8, 3, 2, 2, 1, 5, 2, 0, 1, 1, 1};
    for (int what = 0; what < due.length; what++) {
      c.due("look(" + what + ")", x.look(what), due[what]);
    }
  }

  private static void lookNot(Check c) {
    LawRock x = Scene.rock(3);
    for (int what : new int[] {-1, -2, 11, 12, 100, Integer.MIN_VALUE, Integer.MAX_VALUE}) {
      c.due("look(" + what + ")", x.look(what), -2);
    }
  }
}
