/** The edges of part 3: the law as it was, what is owed, suits, parts, outlaws. */
final class LawEdges {
  private LawEdges() {
  }

  static void test(Sentences s) {
    s.in("Terms");
    s.test("==== 3. THE LAW at a SUMMER k (below NOW):", LawEdges::belowNow);
    s.test("of a LINE the WORDING in which it was SAID last in 0 .. k,", LawEdges::saidLast);
    s.test("unless it is DEAD by then (in k or ahead).", LawEdges::deadByThen);
    s.test("OWED by LINE l for facts: E of that WORDING, if when is so (or there is none) and unless is not;", LawEdges::conditions);
    s.test("0 at least, 9999 at most, else 0;", LawEdges::leastAndMost);
    s.test("0 without.", LawEdges::without);
    s.test("line N in it is what is OWED by LINE N, if N is below l, else 0.", LawEdges::otherLines);
    s.test("Facts: harm (0 .. 99), witnesses (0 .. 9),", LawEdges::facts);
    s.test("years (since the deed), kin (1, 0), age (of the one who did it, at the deed).", LawEdges::factsOfADeed);
    s.test("SUITS 0 .. 99:", LawEdges::hundredSuits);
    s.test("of a PERSON against another one by a LINE", LawEdges::anotherOne);
    s.test("for a deed in a SUMMER up to NOW", LawEdges::deeds);
    s.test("(both BORN by then, both live):", LawEdges::bornAndLiving);
    s.test("years NOW less that, kin: of one FAMILY.", LawEdges::yearsAndKin);
    s.test("OWED by THE LAW at NOW less 1 (0 in SUMMER 0).", LawEdges::lawBefore);
    s.test("Of what is OWED the half, upwards, is the PERSON's;", LawEdges::half);
    s.test("the rest goes to all others of its FAMILY that live, alike;", LawEdges::rest);
    s.test("what can't be parted (all, without any) to the PERSON.", LawEdges::cantBeParted);
    s.test("They may be PAID.", LawEdges::paid);
    s.test("OUTLAW is one that lives and OWES something in a SUIT not PAID", LawEdges::outlaws);
    s.test("that is 2 SUMMERS old (NOW less that of the SUIT) or more.", LawEdges::twoSummersOld);
  }

  private static void belowNow(Check c) {
    LawRock x = Scene.rockWithLine(1);
    x.know(0, 0, 2, 9);
    c.due("stood(0, 0) in 0", x.stood(0, 0), -1);
    c.due("owed at 0 in 0", x.owed(0, 0, 0, 0, 0, 0, 0), -1);
    x.summers(1);
    c.due("stood(0, 0) in 1", x.stood(0, 0), 2);
    c.due("owed at 0 in 1", x.owed(0, 0, 0, 0, 0, 0, 0), 2);
    c.due("stood(0, 1) in 1", x.stood(0, 1), -1);
    c.due("owed at 1 in 1", x.owed(0, 1, 0, 0, 0, 0, 0), -1);
    c.due("stood(0, -1)", x.stood(0, -1), -1);
    c.due("owed at -1", x.owed(0, -1, 0, 0, 0, 0, 0), -1);
    c.due("stood at the least int", x.stood(0, Integer.MIN_VALUE), -1);
    c.due("stood at the greatest int", x.stood(0, Integer.MAX_VALUE), -1);
  }

  private static void saidLast(Check c) {
    LawRock x = Scene.rock(1);
    x.line(1, true);
    x.know(0, 0, 3, 9);
    x.summers(4);
    x.know(0, 0, 4, 9);
    x.summers(3);
    x.away(0);
    x.summers(1);
    int[] due = {-1, 3, 3, 3, 4, 4, 4, 4};
    for (int k = 0; k < due.length; k++) {
      c.due("at " + k, x.stood(0, k), due[k]);
    }
    c.due("it was SILENT in 7", x.said(0, 7), -1);
  }

  private static void deadByThen(Check c) {
    LawRock x = Scene.rockWithLine(1);
    x.know(0, 0, 3, 9);
    x.summers(1);
    x.dies(0);
    x.summers(11);
    int[] due = {3, 3, 3, 3, 3, 3, 3, 3, 3, -1, -1, -1};
    c.due("it DIED", x.lineOf(0, 3), 9);
    for (int k = 0; k < due.length; k++) {
      c.due("stood at " + k, x.stood(0, k), due[k]);
      c.due("owed at " + k, x.owed(0, k, 0, 0, 0, 0, 0), Math.max(0, due[k]));
    }
  }

  private static void conditions(Check c) {
    String[] clauses = {"", " when 1=1", " when 1=2", " unless 1=1", " unless 1=2", " when 1=1 unless 1=1", " when 1=1 unless 1=2",
        " when 1=2 unless 1=1", " when 1=2 unless 1=2"};
    int[] due = {8, 8, 0, 0, 8, 0, 8, 0, 0};
    for (int i = 0; i < clauses.length; i++) {
      c.due("marks 8" + clauses[i], Scene.byBook(0, 0, 0, "marks 8" + clauses[i] + ";"), due[i]);
      LawRock x = Scene.court("marks 8" + clauses[i] + ";");
      c.due("marks 8" + clauses[i] + " by THE LAW", x.owed(0, 0, 0, 0, 0, 0, 0), due[i]);
    }
  }

  private static void leastAndMost(Check c) {
    String[] texts = {"marks 0;", "marks 1;", "marks 0-1;", "marks 9999-1;", "marks 9999;", "marks 9999+1;", "marks 8192*8192*32;",
        "marks 8192*8192*31+8192*8192-1;", "marks 9999+1 when 1=2;"};
    int[] due = {0, 1, 0, 9998, 9999, 9999, 0, 9999, 0};
    for (int i = 0; i < texts.length; i++) {
      c.due(texts[i], Scene.byBook(0, 0, 0, texts[i]), due[i]);
    }
    c.due("what another LINE owes is 9999 at most", Scene.byBook(1, 0, 0, "marks 9999*2;", "marks line 0-9990;"), 9);
    c.due("what another LINE owes is 0 at least", Scene.byBook(1, 0, 0, "marks 0-5;", "marks line 0+7;"), 7);
  }

  private static void without(Check c) {
    LawRock x = Scene.rockWithLine(1);
    x.summers(1);
    c.due("never SAID", x.owed(0, 0, 1, 1, 1, 1, 1), 0);
    x.know(0, 0, 3, 9);
    x.summers(3);
    c.due("not SAID yet", x.owed(0, 2, 1, 1, 1, 1, 1), 0);
    c.due("SAID", x.owed(0, 3, 1, 1, 1, 1, 1), 3);
    c.due("not in THE BOOK", x.byBook(0, 1, 1, 1, 1, 1), 0);
  }

  private static void otherLines(Check c) {
    String[] texts = {"marks line 0 + 3;", "marks line 0 + line 1 + 10;", "marks line 1 + line 2 + line 3 + 100;"};
    c.due("line 0 in LINE 0", Scene.byBook(0, 0, 0, texts), 3);
    c.due("line 1 in LINE 1", Scene.byBook(1, 0, 0, texts), 13);
    c.due("lines 2 and 3 in LINE 2", Scene.byBook(2, 0, 0, texts), 113);
    LawRock x = Scene.court("marks harm;");
    Check.wording(x, "marks line 0 * 2 + line 1 + line 2;");
    x.line(0, true);
    x.know(0, 1, 1, 9);
    x.summers(3);
    c.due("LINE 1 by THE LAW", x.owed(1, 3, 7, 0, 0, 0, 0), 14);
    c.due("LINE 1 ahead of it", x.owed(1, 2, 7, 0, 0, 0, 0), 0);
    x.dies(0);
    x.dies(1);
    x.person(0, 0, -50);
    x.know(2, 1, 1, 9);
    x.summers(9);
    c.due("LINE 0 is DEAD", x.lineOf(0, 3), 12);
    c.due("LINE 1 lives", x.lineOf(1, 3), -1);
    c.due("LINE 1 by a LINE that is not DEAD yet", x.owed(1, 11, 7, 0, 0, 0, 0), 14);
    c.due("LINE 1 by a DEAD LINE", x.owed(1, 12, 7, 0, 0, 0, 0), 0);
    LawRock y = new LawRock();
    Check.wording(y, "marks 1;");
    Check.wording(y, "marks line 22 * 2;");
    for (int l = 0; l < 24; l++) {
      y.line(0, false);
    }
    y.book(22, 0);
    y.book(23, 1);
    c.due("line 22 in LINE 23", y.byBook(23, 0, 0, 0, 0, 0), 2);
    y.book(22, 1);
    c.due("line 22 in LINE 22", y.byBook(22, 0, 0, 0, 0, 0), 0);
  }

  private static void facts(Check c) {
    LawRock x = Scene.court("marks harm + witnesses * 100;");
    int[][] cases = {{0, 0, 0}, {99, 0, 99}, {0, 9, 900}, {99, 9, 999}, {-1, 0, -1}, {100, 0, -1}, {0, -1, -1}, {0, 10, -1}};
    for (int[] one : cases) {
      String facts = "harm " + one[0] + ", witnesses " + one[1];
      c.due(facts, x.owed(0, 0, one[0], one[1], 0, 0, 0), one[2]);
      c.due(facts + " by THE BOOK", x.byBook(0, one[0], one[1], 0, 0, 0), Math.min(one[2], 0));
    }
    int suits = 0;
    for (int[] one : cases) {
      String facts = "a SUIT with harm " + one[0] + ", witnesses " + one[1];
      c.due(facts, x.suit(0, 1, 0, one[0], one[1], 0), one[2] < 0 ? -1 : suits);
      suits += one[2] < 0 ? 0 : 1;
      c.due(facts + ", SUITS", x.look(6), suits);
      c.due(facts + ", OWED", x.suitOf(suits - 1, 3), one[2] < 0 ? 999 : one[2]);
    }
  }

  private static void factsOfADeed(Check c) {
    LawRock x = Scene.court("marks years * 1000 + kin * 500 + age;");
    x.person(2, 0, -5);
    x.summers(3);
    x.suit(0, 1, 0, 0, 0, 4);
    c.due("a deed of NOW", x.suitOf(0, 3), 24);
    x.suit(0, 1, 0, 0, 0, 1);
    c.due("a deed of 3 SUMMERS ago", x.suitOf(1, 3), 3021);
    x.suit(1, 0, 0, 0, 0, 1);
    c.due("the age of the other one", x.suitOf(2, 3), 3031);
    x.suit(0, 2, 0, 0, 0, 0);
    c.due("of one FAMILY", x.suitOf(3, 3), 4505);
  }

  private static void hundredSuits(Check c) {
    LawRock x = Scene.court("marks harm;");
    for (int i = 0; i <= 99; i++) {
      c.due("suit", x.suit(0, 1, 0, i, 0, 1), i);
    }
    c.due("the 101st", x.suit(0, 1, 0, 7, 0, 1), -1);
    c.due("SUITS", x.look(6), 100);
    c.due("the first one's", x.suitOf(0, 3), 0);
    c.due("the last one's", x.suitOf(99, 3), 99);
    c.due("suitOf(100, 0)", x.suitOf(100, 0), -1);
    c.due("pay(100)", x.pay(100), false);
    x.pay(5);
    c.due("though one is PAID", x.suit(0, 1, 0, 7, 0, 1), -1);
  }

  private static void anotherOne(Check c) {
    LawRock x = Scene.court("marks harm;");
    c.due("against itself", x.suit(0, 0, 0, 1, 0, 0), -1);
    c.due("by LINE 1", x.suit(0, 1, 1, 1, 0, 0), -1);
    c.due("by LINE -1", x.suit(0, 1, -1, 1, 0, 0), -1);
    c.due("by LINE 24", x.suit(0, 1, 24, 1, 0, 0), -1);
    c.due("of PERSON -1", x.suit(-1, 1, 0, 1, 0, 0), -1);
    c.due("of PERSON 2", x.suit(2, 1, 0, 1, 0, 0), -1);
    c.due("against PERSON -1", x.suit(0, -1, 0, 1, 0, 0), -1);
    c.due("against PERSON 2", x.suit(0, 2, 0, 1, 0, 0), -1);
    c.due("SUITS", x.look(6), 0);
    c.due("of 0 against 1", x.suit(0, 1, 0, 1, 0, 0), 0);
    c.due("of 1 against 0", x.suit(1, 0, 0, 1, 0, 0), 1);
    c.due("the same once more", x.suit(1, 0, 0, 1, 0, 0), 2);
  }

  private static void deeds(Check c) {
    LawRock x = Scene.court("marks years;");
    x.summers(4);
    c.due("in NOW", x.suit(0, 1, 0, 0, 0, 5), 0);
    c.due("behind NOW", x.suit(0, 1, 0, 0, 0, 6), -1);
    c.due("in the first SUMMER", x.suit(0, 1, 0, 0, 0, 0), 1);
    c.due("ahead of the first SUMMER", x.suit(0, 1, 0, 0, 0, -1), -1);
    c.due("at the least int", x.suit(0, 1, 0, 0, 0, Integer.MIN_VALUE), -1);
    c.due("at the greatest int", x.suit(0, 1, 0, 0, 0, Integer.MAX_VALUE), -1);
    c.due("years of NOW", x.suitOf(0, 3), 0);
    c.due("years since the first", x.suitOf(1, 3), 5);
    c.due("SUITS", x.look(6), 2);
  }

  private static void bornAndLiving(Check c) {
    LawRock x = Scene.court("marks 1;");
    x.summers(4);
    x.person(0, 3, 3);
    x.person(0, 4, -9);
    c.due("p BORN behind it", x.suit(2, 1, 0, 0, 0, 2), -1);
    c.due("q BORN behind it", x.suit(1, 2, 0, 0, 0, 2), -1);
    c.due("p BORN in it", x.suit(2, 1, 0, 0, 0, 3), 0);
    c.due("q BORN in it", x.suit(1, 2, 0, 0, 0, 3), 1);
    x.dies(3);
    c.due("p died", x.suit(3, 1, 0, 0, 0, 3), -1);
    c.due("q died", x.suit(1, 3, 0, 0, 0, 3), -1);
    c.due("SUITS", x.look(6), 2);
  }

  private static void yearsAndKin(Check c) {
    LawRock x = Scene.court("marks years * 10 + kin;");
    x.person(3, 0, -30);
    Scene.pass(x, 198);
    c.due("NOW", x.look(0), 199);
    x.suit(0, 1, 0, 0, 0, 0);
    c.due("199 years, not of one FAMILY", x.suitOf(0, 3), 1990);
    x.suit(0, 2, 0, 0, 0, 199);
    c.due("no years, of one FAMILY", x.suitOf(1, 3), 1);
    x.suit(2, 0, 0, 0, 0, 198);
    c.due("one year, of one FAMILY", x.suitOf(2, 3), 11);
  }

  private static void lawBefore(Check c) {
    LawRock x = Scene.rockWithLine(2);
    x.know(0, 0, 3, 9);
    x.book(0, 2);
    x.suit(0, 1, 0, 0, 0, 0);
    c.due("in SUMMER 0", x.suitOf(0, 3), 0);
    x.summers(1);
    x.suit(0, 1, 0, 0, 0, 0);
    c.due("in SUMMER 1 by what was SAID in 0", x.suitOf(1, 3), 3);
    x.know(0, 0, 4, 9);
    x.speaker(0);
    x.summers(2);
    x.suit(0, 1, 0, 0, 0, 0);
    c.due("in SUMMER 3, ahead of what is SAID in it", x.suitOf(2, 3), 3);
    x.summers(1);
    x.suit(0, 1, 0, 0, 0, 0);
    c.due("in SUMMER 4", x.suitOf(3, 3), 4);
    c.due("what was OWED stays", x.suitOf(0, 3), 0);
    c.due("what was OWED stays", x.suitOf(1, 3), 3);
    LawRock y = Scene.court("marks 5;");
    for (int t = 1; t <= 9; t++) {
      y.away(0);
      y.away(1);
      y.suit(0, 1, 0, 0, 0, 0);
      y.summers(1);
    }
    y.suit(0, 1, 0, 0, 0, 0);
    c.due("it DIED", y.lineOf(0, 3), 9);
    c.due("in the SUMMER in which it DIES", y.suitOf(8, 3), 5);
    c.due("by a DEAD LINE", y.suitOf(9, 3), 0);
  }

  /** The own part and that of each other one, of marks parted among so many others that live. */
  private static void parted(Check c, int others, int marks, int own, int each) {
    LawRock x = Scene.court("marks " + marks + ";");
    for (int i = 0; i < others; i++) {
      x.person(i % 4, 0, -5);
    }
    x.suit(0, 1, 0, 0, 0, 0);
    String parts = marks + " among " + others + " others: ";
    c.due(parts + "OWED", x.suitOf(0, 3), marks);
    c.due(parts + "its own", x.suitOf(0, 10), own);
    c.due(parts + "the other side's", x.suitOf(0, 11), 0);
    for (int i = 0; i < others; i++) {
      c.due(parts + "of each", x.suitOf(0, 12 + i), each);
    }
  }

  private static void half(Check c) {
    parted(c, 1, 0, 0, 0);
    parted(c, 1, 1, 1, 0);
    parted(c, 1, 2, 1, 1);
    parted(c, 1, 3, 2, 1);
    parted(c, 1, 9998, 4999, 4999);
    parted(c, 1, 9999, 5000, 4999);
  }

  private static void rest(Check c) {
    parted(c, 2, 8, 4, 2);
    parted(c, 3, 12, 6, 2);
    parted(c, 22, 88, 44, 2);
    LawRock x = Scene.court("marks 12;");
    x.person(0, 0, -30);
    x.person(1, 0, -30);
    x.person(0, 2, -30);
    x.dies(3);
    x.suit(0, 2, 0, 0, 0, 0);
    c.due("its own", x.suitOf(0, 10), 6);
    c.due("another FAMILY's", x.suitOf(0, 11), 0);
    c.due("the other side, of its FAMILY", x.suitOf(0, 12), 6);
    c.due("a dead one's", x.suitOf(0, 13), 0);
    c.due("another FAMILY's", x.suitOf(0, 14), 0);
    x.suit(2, 1, 0, 0, 0, 0);
    c.due("PERSON 0 among the others", x.suitOf(1, 10), 6);
    c.due("and its own", x.suitOf(1, 12), 6);
  }

  private static void cantBeParted(Check c) {
    parted(c, 0, 9, 9, 0);
    parted(c, 0, 1, 1, 0);
    parted(c, 0, 0, 0, 0);
    parted(c, 2, 9, 5, 2);
    parted(c, 2, 7, 5, 1);
    parted(c, 3, 9, 6, 1);
    parted(c, 4, 7, 7, 0);
    parted(c, 22, 9999, 5005, 227);
    LawRock x = Scene.court("marks 12;");
    x.person(0, 0, -30);
    x.dies(2);
    x.suit(0, 1, 0, 0, 0, 0);
    c.due("without any that lives", x.suitOf(0, 10), 12);
  }

  private static void paid(Check c) {
    LawRock x = Scene.court("marks 12;");
    x.suit(0, 1, 0, 0, 0, 0);
    c.due("not at first", x.suitOf(0, 5), 0);
    c.due("pay", x.pay(0), true);
    c.due("PAID", x.suitOf(0, 5), 1);
    c.due("once", x.pay(0), false);
    c.due("PAID still", x.suitOf(0, 5), 1);
  }

  private static void outlaws(Check c) {
    LawRock x = Scene.court("marks harm;");
    x.person(2, 2, -30);
    x.person(3, 3, -30);
    x.suit(0, 1, 0, 1, 0, 0);
    x.suit(0, 2, 0, 0, 0, 0);
    x.suit(0, 3, 0, 5, 0, 0);
    x.suit(0, 3, 0, 5, 0, 0);
    x.pay(2);
    x.summers(2);
    c.due("who OWES 1", x.of(1, 4), 1);
    c.due("who OWES nothing", x.of(2, 4), 0);
    c.due("who has PAID one of two", x.of(3, 4), 1);
    c.due("to whom is OWED", x.of(0, 4), 0);
    c.due("OUTLAWS", x.look(9), 2);
    x.pay(3);
    c.due("who has PAID both", x.of(3, 4), 0);
    x.dies(1);
    c.due("a dead one", x.of(1, 4), 0);
    c.due("no OUTLAWS", x.look(9), 0);
    x.suit(2, 0, 0, 1, 0, 0);
    x.summers(2);
    c.due("PERSON 0", x.of(0, 4), 1);
    c.due("PERSON 0 among the OUTLAWS", x.look(9), 1);
  }

  private static void twoSummersOld(Check c) {
    LawRock x = Scene.court("marks 3;");
    x.suit(0, 1, 0, 0, 0, 0);
    c.due("at once", x.of(1, 4), 0);
    x.summers(1);
    c.due("1 SUMMER old, of a deed 2 SUMMERS ago", x.of(1, 4), 0);
    c.due("no OUTLAWS", x.look(9), 0);
    x.summers(1);
    c.due("2 SUMMERS old", x.of(1, 4), 1);
    c.due("OUTLAWS", x.look(9), 1);
    x.summers(20);
    c.due("22 SUMMERS old", x.of(1, 4), 1);
    x.pay(0);
    c.due("PAID", x.of(1, 4), 0);
    LawRock y = Scene.rockWithLine(2);
    y.suit(0, 1, 0, 0, 0, 0);
    y.know(0, 0, 4, 9);
    y.summers(5);
    c.due("a SUIT for nothing", y.of(1, 4), 0);
  }
}
