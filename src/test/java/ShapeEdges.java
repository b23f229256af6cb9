/** The edges of parts 4 and 5: how far wordings are, trees, losses, plans, the book. */
final class ShapeEdges {
  private ShapeEdges() {
  }

  static void test(Sentences s) {
    s.in("Terms");
    s.test("==== 4. FAR are two WORDINGS by the least number of TOKENS", ShapeEdges::leastNumber);
    s.test("(a NUMBER as its value, of blanks none)", ShapeEdges::numbersAndBlanks);
    s.test("put in, taken out or changed for one another, by which the one becomes the other.", ShapeEdges::changes);
    s.test("A TREE of a set of WORDINGS (2 .. 8):", ShapeEdges::treeSizes);
    s.test("begun with the least,", ShapeEdges::treeBegins);
    s.test("again and again the one that is least FAR from one that is in it", ShapeEdges::treeGrows);
    s.test("(of several the least such one, from the least one in it) comes in:", ShapeEdges::treeOfSeveral);
    s.test("its COST and, of each, from which.", ShapeEdges::treeAnswers);
    s.test("LOSS of a set of LINES: how many that live HAVE the LINE which the fewest HAVE.", ShapeEdges::losses);
    s.test("A PLAN for at most 4 LINES, m (1 .. 3):", ShapeEdges::planSizes);
    s.test("PERSONS that live are each TAUGHT one LINE of these at most that they do not HAVE, so that m HAVE each:",
        ShapeEdges::planLessons);
    s.test("a LINE that nobody HAS can't be TAUGHT.", ShapeEdges::planWithoutTeacher);
    s.test("A TEACHING costs 1, if one that HAS it lives in the learner's QUARTER now, else 3.", ShapeEdges::planCosts);
    s.test("BEST: the least cost;", ShapeEdges::planLeastCost);
    s.test("of several the first by what PERSONS 0, 1, .. are TAUGHT (the lesser LINE first, none last).", ShapeEdges::planFirst);
    s.test("==== 5. THE BOOK has for LINES a WORDING each (none at first).", ShapeEdges::book);
    s.test("WRONG in it are LINES whose WORDING there is not that of THE LAW at NOW less 1", ShapeEdges::wrongLines);
    s.test("(written, and THE LAW has another one or none).", ShapeEdges::wrongWithoutLaw);
    s.test("The constants: `NONE = -1`: None.", ShapeEdges::constants);
  }

  private static LawRock wordings(String... texts) {
    LawRock x = new LawRock();
    for (String text : texts) {
      Check.wording(x, text);
    }
    return x;
  }

  private static int far(String one, String other) {
    LawRock x = wordings(one, other);
    return x.far(0, 1) == x.far(1, 0) ? x.far(0, 1) : -99;
  }

  private static void leastNumber(Check c) {
    c.due("the same", far("marks 1;", "marks 1;"), 0);
    c.due("a part that wandered", far("marks 1+2+3+4+5;", "marks 2+3+4+5+1;"), 4);
    c.due("the shortest and a long one", far("marks 1;", "marks 1" + "+1".repeat(196) + ";"), 392);
    c.due("two long ones unlike in all", far("marks 1" + "+1".repeat(196) + ";", "marks 2" + "-2".repeat(196) + ";"), 393);
    c.due("two long ones unlike in one", far("marks 1" + "+1".repeat(196) + ";", "marks 1" + "+1".repeat(195) + "+2;"), 1);
    LawRock x = wordings("marks 3;");
    c.due("itself", x.far(0, 0), 0);
  }

  private static void numbersAndBlanks(Check c) {
    c.due("0007 and 7", far("marks 0007;", "marks 7;"), 0);
    c.due("0000 and 0", far("marks 0000;", "marks 0;"), 0);
    c.due("70 and 7", far("marks 70;", "marks 7;"), 1);
    c.due("9999 and 0 are one change", far("marks 9999;", "marks 0;"), 1);
    c.due("blanks", far("marks 1+harm;", "marks  1\n +\n\nharm ;"), 0);
    c.due("line 07 and line 7", far("marks line 07;", "marks line 7;"), 0);
    int unlike = 0;
    for (int n = 0; n <= 9999; n += 31) {
      LawRock x = wordings("marks harm;");
      for (int i = 0; i < 31; i++) {
        int w = Check.wording(x, "marks " + Math.min(n + i, 9999) + ";");
        unlike += x.far(0, w);
      }
    }
    c.due("no NUMBER is as a keyword is", unlike, 10013);
  }

  private static void changes(Check c) {
    c.due("one put in for the other's taken out", far("marks 1 when not 1=1;", "marks 1 when 1=1;"), 1);
    c.due("a sign changed", far("marks 1+1;", "marks 1-1;"), 1);
    c.due("a keyword changed for a NUMBER", far("marks harm;", "marks 3;"), 1);
    c.due("a keyword changed for another", far("marks harm;", "marks kin;"), 1);
    c.due("a sign that stands in another's place", far("marks 1 when 1<2;", "marks 1 when 1>2;"), 1);
    c.due("put in at the end", far("marks 1;", "marks 1 unless kin=1;"), 4);
    c.due("put in ahead", far("marks 1;", "marks 2*1;"), 2);
    c.due("changed and put in: + for = is cheaper than 1 for 2", far("marks harm+1;", "marks harm*2 when kin=1;"), 5);
  }

  private static void treeSizes(Check c) {
    LawRock x = new LawRock();
    Scene.wordings(x, 9);
    c.due("none", x.tree(0, 0), -1);
    c.due("1", x.tree(4, 0), -1);
    c.due("1, from which", x.tree(4, 12), -1);
    c.due("2", x.tree(5, 0), 1);
    c.due("8", x.tree(255, 0), 7);
    c.due("8 with the last", x.tree(0x1fe, 18), 1);
    c.due("9", x.tree(511, 0), -1);
    c.due("9, from which", x.tree(511, 12), -1);
    c.due("one that is not there", x.tree(1 | 1 << 9, 0), -1);
    c.due("one far off", x.tree(1 | 1 << 31, 0), -1);
    c.due("all of 32", x.tree(-1, 0), -1);
    LawRock y = new LawRock();
    Scene.wordings(y, 32);
    c.due("the last of 32", y.tree(1 << 31 | 1 << 30, 0), 1);
    c.due("the last of 32, from which", y.tree(1 << 31 | 1 << 30, 41), 30);
    c.due("the last of 32, the first", y.tree(1 << 31 | 1 << 30, 40), -1);
    c.due("all of 32 are too many", y.tree(-1, 0), -1);
  }

  private static void treeBegins(Check c) {
    LawRock x = wordings("marks 1+1+1;", "marks 1;", "marks 1+1;");
    c.due("0 from none", x.tree(7, 10), -1);
    c.due("2 from 0", x.tree(7, 12), 0);
    c.due("1 from 2", x.tree(7, 11), 2);
    c.due("without 0: 1 from none", x.tree(6, 11), -1);
    c.due("without 0: 2 from 1", x.tree(6, 12), 1);
  }

  private static void treeGrows(Check c) {
    LawRock x = wordings("marks 1;", "marks 1+1+1+1;", "marks 1+1;", "marks 1+1+1;");
    c.due("1 from 3", x.tree(15, 11), 3);
    c.due("2 from 0", x.tree(15, 12), 0);
    c.due("3 from 2", x.tree(15, 13), 2);
    c.due("COST", x.tree(15, 0), 6);
    c.due("without 3: 1 from 2", x.tree(7, 11), 2);
    c.due("without 3: COST", x.tree(7, 0), 6);
  }

  private static void treeOfSeveral(Check c) {
    LawRock x = wordings("marks 1;", "marks 2;", "marks 3;", "marks 1;");
    c.due("all as far from one another: from the least in it", x.tree(7, 12), 0);
    c.due("1 comes from 0", x.tree(7, 11), 0);
    c.due("the same as 0 comes first", x.tree(15, 13), 0);
    c.due("2 is as far from 0 as from 3", x.tree(15, 12), 0);
    LawRock y = wordings("marks 1+1;", "marks 1+1+2;", "marks 1+1+3;", "marks 1+1+4;");
    c.due("the least of three as far comes first", y.tree(15, 11), 0);
    c.due("the others are nearer to it then", y.tree(15, 12), 1);
    c.due("the others are nearer to it then", y.tree(15, 13), 1);
    c.due("COST", y.tree(15, 0), 4);
  }

  private static void treeAnswers(Check c) {
    LawRock x = wordings("marks 1;", "marks 1+1;", "marks 2;");
    c.due("COST", x.tree(7, 0), 3);
    c.due("of the first", x.tree(7, 10), -1);
    c.due("of the second", x.tree(7, 11), 0);
    c.due("of the third", x.tree(7, 12), 0);
    LawRock y = wordings("marks 1;", "marks 01;");
    c.due("COST of the same", y.tree(3, 0), 0);
    c.due("from which", y.tree(3, 11), 0);
  }

  private static LawRock people(int lines, int... quarters) {
    LawRock x = wordings("marks 1;");
    for (int quarter : quarters) {
      x.person(quarter, 0, -1);
    }
    for (int l = 0; l < lines; l++) {
      x.line(l % 3, false);
    }
    return x;
  }

  private static void losses(Check c) {
    LawRock x = people(24, 0, 0, 0);
    c.due("nobody", x.loss(1), 0);
    x.know(0, 23, 0, 1);
    x.know(1, 23, 0, 1);
    x.know(2, 23, 0, 1);
    x.know(2, 0, 0, 1);
    c.due("all three", x.loss(1 << 23), 3);
    c.due("the fewest of two", x.loss(1 << 23 | 1), 1);
    c.due("the fewest of all", x.loss(0xffffff), 0);
    c.due("one that is not there", x.loss(1 << 24), -1);
    x.dies(2);
    c.due("those that live", x.loss(1 << 23), 2);
    c.due("nobody that lives", x.loss(1), 0);
  }

  private static void planSizes(Check c) {
    LawRock x = people(5, 0, 0, 0, 0);
    for (int l = 0; l < 5; l++) {
      for (int p = 0; p < 4; p++) {
        x.know(p, l, 0, 9);
      }
    }
    c.due("1 LINE", x.plan(16, 1, 0), 0);
    c.due("4 LINES", x.plan(15, 3, 0), 0);
    c.due("4 LINES, m 3, TEACHINGS", x.plan(30, 3, 1), 0);
    c.due("5 LINES", x.plan(31, 1, 0), -1);
    c.due("5 LINES, TEACHINGS", x.plan(31, 1, 1), -1);
    c.due("a LINE that is not there", x.plan(32, 1, 0), -1);
    c.due("a LINE far off", x.plan(1 << 31, 1, 0), -1);
    for (int bad : new int[] {0, 4, -1, Integer.MIN_VALUE, Integer.MAX_VALUE}) {
      c.due("m " + bad, x.plan(1, bad, 0), -1);
    }
  }

  private static void planned(Check c, LawRock x, int set, int m, int cost, int... lessons) {
    String plan = "plan(" + set + ", " + m + ", ";
    c.due(plan + "0)", x.plan(set, m, 0), cost);
    int teachings = 0;
    for (int p = 0; p < lessons.length; p++) {
      c.due(plan + (10 + p) + ")", x.plan(set, m, 10 + p), lessons[p]);
      teachings += lessons[p] == -1 ? 0 : 1;
    }
    c.due(plan + "1)", x.plan(set, m, 1), cost == -1 ? -1 : teachings);
  }

  private static void planLessons(Check c) {
    LawRock x = people(2, 0, 0, 0, 0);
    x.know(0, 0, 0, 1);
    x.know(0, 1, 0, 1);
    planned(c, x, 3, 1, 0, -1, -1, -1, -1);
    planned(c, x, 3, 2, 2, -1, 0, 1, -1);
    planned(c, x, 1, 3, 2, -1, 0, 0, -1);
    planned(c, x, 3, 3, -1, -1, -1, -1, -1);
    x.dies(1);
    planned(c, x, 3, 2, 2, -1, -1, 0, 1);
    planned(c, x, 1, 3, 2, -1, -1, 0, 0);
    x.dies(3);
    planned(c, x, 1, 3, -1, -1, -1, -1, -1);
    planned(c, x, 1, 2, 1, -1, -1, 0, -1);
    x.know(2, 0, 0, 1);
    planned(c, x, 1, 2, 0, -1, -1, -1, -1);
    planned(c, x, 3, 2, 1, -1, -1, 1, -1);
    LawRock y = people(1, 0, 0, 0, 0);
    for (int p = 0; p < 4; p++) {
      y.know(p, 0, 0, 1);
    }
    planned(c, y, 1, 3, 0, -1, -1, -1, -1);
  }

  private static void planWithoutTeacher(Check c) {
    LawRock x = people(2, 0, 0, 0);
    planned(c, x, 1, 1, -1, -1, -1, -1);
    x.know(0, 0, 0, 1);
    planned(c, x, 1, 1, 0, -1, -1, -1);
    planned(c, x, 3, 1, -1, -1, -1, -1);
    planned(c, x, 2, 1, -1, -1, -1, -1);
    x.dies(0);
    planned(c, x, 1, 1, -1, -1, -1, -1);
    planned(c, people(1), 1, 1, -1);
  }

  private static void planCosts(Check c) {
    LawRock x = people(1, 0, 1, 0);
    x.know(0, 0, 0, 1);
    planned(c, x, 1, 2, 1, -1, -1, 0);
    planned(c, x, 1, 3, 4, -1, 0, 0);
    LawRock y = people(1, 0, 1, 2, 3);
    y.know(0, 0, 0, 1);
    planned(c, y, 1, 2, 3, -1, 0, -1, -1);
    planned(c, y, 1, 3, 6, -1, 0, 0, -1);
    LawRock z = people(1, 0, 1, 1, 2);
    z.know(0, 0, 0, 1);
    z.know(1, 0, 0, 1);
    z.dies(1);
    planned(c, z, 1, 2, 3, -1, -1, 0, -1);
    LawRock v = people(1, 0, 1, 0, 1);
    v.know(0, 0, 0, 1);
    v.know(1, 0, 0, 1);
    planned(c, v, 1, 3, 1, -1, -1, 0, -1);
    v.dies(2);
    planned(c, v, 1, 3, 1, -1, -1, -1, 0);
    LawRock u = people(1, 0, 1, 1, 1);
    u.know(0, 0, 0, 1);
    planned(c, u, 1, 3, 6, -1, 0, 0, -1);
  }

  private static void planLeastCost(Check c) {
    LawRock x = people(1, 1, 1, 0, 0);
    x.know(2, 0, 0, 1);
    planned(c, x, 1, 2, 1, -1, -1, -1, 0);
    LawRock y = people(2, 0, 0, 1);
    y.know(2, 0, 0, 1);
    y.know(0, 1, 0, 1);
    planned(c, y, 3, 2, 4, 0, 1, -1);
    LawRock z = people(24, 0, 0, 0, 0, 0, 0, 1, 1, 1, 1, 1, 1, 2, 2, 2, 2, 2, 2, 3, 3, 3, 3, 3, 3);
    for (int l = 20; l < 24; l++) {
      z.know(23, l, 0, 1);
    }
    planned(c, z, 0xf00000, 3, 14, 20, 20, 21, -1, -1, -1, -1, -1, -1, -1, -1, -1, -1, -1, -1, -1, -1, -1, 21, 22, 22, 23, 23, -1);
  }

  private static void planFirst(Check c) {
    LawRock x = people(3, 0, 0, 0, 0, 0);
    for (int l = 0; l < 3; l++) {
      x.know(4, l, 0, 1);
    }
    planned(c, x, 1, 2, 1, 0, -1, -1, -1, -1);
    planned(c, x, 6, 2, 2, 1, 2, -1, -1, -1);
    planned(c, x, 7, 2, 3, 0, 1, 2, -1, -1);
    planned(c, x, 3, 3, 4, 0, 0, 1, 1, -1);
    x.know(0, 0, 0, 1);
    planned(c, x, 3, 3, 3, 1, 0, 1, -1, -1);
    x.dies(0);
    planned(c, x, 7, 2, 3, -1, 0, 1, 2, -1);
  }

  private static void book(Check c) {
    LawRock x = Scene.rockWithLine(0);
    x.line(1, false);
    c.due("at first", x.look(10), 0);
    c.due("by it at first", x.byBook(0, 0, 0, 0, 0, 0), 0);
    x.book(0, 3);
    x.book(1, 4);
    c.due("two", x.look(10), 2);
    c.due("LINE 0", x.byBook(0, 0, 0, 0, 0, 0), 3);
    c.due("LINE 1", x.byBook(1, 0, 0, 0, 0, 0), 4);
    x.book(0, 2);
    c.due("two still", x.look(10), 2);
    c.due("LINE 0 anew", x.byBook(0, 0, 0, 0, 0, 0), 2);
    x.book(0, 0);
    c.due("WORDING 0 is one too", x.look(10), 2);
    x.book(0, -1);
    c.due("one", x.look(10), 1);
    LawRock y = Scene.rock(0);
    for (int l = 0; l < 24; l++) {
      y.line(0, false);
      y.book(l, l % 5);
    }
    c.due("all 24", y.look(10), 24);
    c.due("all 24 are WRONG", y.wrong(), 0xffffff);
  }

  private static void wrongLines(Check c) {
    LawRock x = Scene.rockWithLine(1);
    x.line(0, true);
    x.know(0, 0, 1, 9);
    x.know(0, 1, 2, 9);
    x.book(0, 1);
    x.book(1, 1);
    x.summers(1);
    c.due("LINE 1 alone", x.wrong(), 2);
    x.know(0, 0, 3, 9);
    x.summers(2);
    c.due("THE LAW at NOW less 1 is that of 0", x.wrong(), 2);
    x.summers(1);
    c.due("it was SAID otherwise", x.wrong(), 3);
    x.book(0, 3);
    x.book(1, 2);
    c.due("written anew", x.wrong(), 0);
    x.book(1, -1);
    c.due("not written", x.wrong(), 0);
  }

  private static void wrongWithoutLaw(Check c) {
    LawRock x = Scene.rockWithLine(1);
    x.line(1, true);
    c.due("nothing written, no LAW", x.wrong(), 0);
    x.book(0, 0);
    c.due("written, no LAW in SUMMER 0", x.wrong(), 1);
    x.know(0, 0, 0, 9);
    x.summers(1);
    c.due("written as THE LAW has it", x.wrong(), 0);
    x.book(1, 0);
    c.due("written, not SAID yet", x.wrong(), 2);
    x.book(1, -1);
    x.dies(0);
    x.summers(8);
    c.due("SILENT twice", x.wrong(), 0);
    x.summers(1);
    c.due("DEAD", x.wrong(), 1);
  }

  private static void constants(Check c) {
    c.due("NONE", LawRock.NONE, -1);
  }
}
