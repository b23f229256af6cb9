/** The edges of promises 13 to 20: lines, who has them, summers, what was said. */
final class LineEdges {
  private static final int[] FAR_OFF = {-1, -2, 24, 100, Integer.MIN_VALUE, Integer.MAX_VALUE};

  private LineEdges() {
  }

  static void test(Sentences s) {
    s.in("Promise 13");
    s.test("A LINE: its number;", LineEdges::line);
    s.test("NONE if one can't be,", LineEdges::noLine);
    s.test("or there are 24.", LineEdges::fullLines);
    s.in("Promise 14");
    s.test("p HAS LINE l in WORDING w by a STRENGTH 1 .. 9 (told; in place of how it HAS it): true;", LineEdges::know);
    s.test("false, and nothing is done, if one can't be, or p DIED.", LineEdges::knowNot);
    s.in("Promise 15");
    s.test("q is TAUGHT LINE l by p: true;", LineEdges::teach);
    s.test("false, and nothing is done, if one can't be.", LineEdges::teachNot);
    s.in("Promise 16");
    s.test("How p HAS LINE l: what 0 the WORDING, 1 STRENGTH, 2 from whom (100 THE ROCK, NONE nobody).", LineEdges::has);
    s.test("NONE if it does not (0 for STRENGTH),", LineEdges::hasNot);
    s.test("one can't be, or another what.", LineEdges::hasNothing);
    s.in("Promise 17");
    s.test("So many SUMMERS (1 .. 20) go by: NOW;", LineEdges::summers);
    s.test("NONE, and nothing is done, if one can't be,", LineEdges::summersNot);
    s.test("or beyond 199.", LineEdges::summersBeyond);
    s.in("Promise 18");
    s.test("Of LINE l what 0 SECTION, 1 1 if VERSE, else 0,", LineEdges::lineOf);
    s.test("2 how often it was SILENT one behind the other,", LineEdges::silences);
    s.test("3 the SUMMER in which it DIED (NONE),", LineEdges::lineDeath);
    s.test("4 how many that live HAVE it,", LineEdges::holders);
    s.test("5 unlike WORDINGS of these,", LineEdges::unlikeWordings);
    s.test("6 how often it was SAID.", LineEdges::timesSaid);
    s.test("NONE if there is none such, or another what.", LineEdges::lineOfNothing);
    s.in("Promise 19");
    s.test("LINE l in SUMMER k (below NOW): the WORDING in which it was SAID;", LineEdges::said);
    s.test("NONE: it was SILENT;", LineEdges::saidSilent);
    s.test("NONE - 1: neither (not its SECTION, not there yet, DEAD ahead),", LineEdges::saidNeither);
    s.test("or one can't be.", LineEdges::saidNothing);
    s.in("Promise 20");
    s.test("THE LAW at SUMMER k (below NOW): the WORDING of LINE l;", LineEdges::stood);
    s.test("NONE if there is none,", LineEdges::stoodNone);
    s.test("or one can't be.", LineEdges::stoodNothing);
  }

  private static void line(Check c) {
    LawRock x = new LawRock();
    c.due("the first", x.line(2, true), 0);
    c.due("the same again", x.line(2, true), 1);
    x.line(3, true);
    c.due("no number is lost by a refused call", x.line(0, false), 2);
  }

  private static void noLine(Check c) {
    LawRock x = Scene.rockWithLine(1);
    String before = Scene.all(x);
    for (int section : new int[] {-1, 3, Integer.MIN_VALUE, Integer.MAX_VALUE}) {
      c.due("line(" + section + ", true)", x.line(section, true), -1);
      c.due("line(" + section + ", false)", x.line(section, false), -1);
    }
    c.due("nothing is done", Scene.all(x).equals(before), true);
  }

  private static void fullLines(Check c) {
    LawRock x = new LawRock();
    for (int l = 0; l < 24; l++) {
      c.due("line", x.line(l % 3, false), l);
    }
    c.due("the 25th", x.line(0, false), -1);
    x.summers(9);
    c.due("the 25th though all are DEAD", x.line(0, false), -1);
    c.due("DEAD ones", x.look(4), 24);
    c.due("LINES", x.look(3), 24);
  }

  private static void know(Check c) {
    LawRock x = Scene.rockWithLine(2);
    c.due("by 9", x.know(0, 0, 4, 9), true);
    c.due("WORDING", x.has(0, 0, 0), 4);
    c.due("STRENGTH", x.has(0, 0, 1), 9);
    c.due("in place of it, by 1", x.know(0, 0, 0, 1), true);
    c.due("WORDING", x.has(0, 0, 0), 0);
    c.due("STRENGTH", x.has(0, 0, 1), 1);
    x.teach(0, 1, 0);
    c.due("in place of TAUGHT", x.know(1, 0, 0, 4), true);
    c.due("from nobody", x.has(1, 0, 2), -1);
    x.summers(7);
    x.away(0);
    c.due("of one AWAY", x.know(0, 0, 1, 2), true);
    LawRock y = Scene.rockWithLine(1);
    y.summers(7);
    c.due("a DEAD LINE", y.lineOf(0, 3), 6);
    c.due("may be told", y.know(0, 0, 1, 2), true);
  }

  private static void knowNot(Check c) {
    LawRock x = Scene.rockWithLine(2);
    Scene.know(x, 1, 2);
    x.dies(1);
    String before = Scene.all(x);
    c.due("of a dead one", x.know(1, 0, 3, 9), false);
    c.due("of PERSON 2", x.know(2, 0, 3, 9), false);
    c.due("LINE 1", x.know(0, 1, 3, 9), false);
    c.due("WORDING 5", x.know(0, 0, 5, 9), false);
    c.due("WORDING 32", x.know(0, 0, 32, 9), false);
    c.due("by 0", x.know(0, 0, 3, 0), false);
    c.due("by 10", x.know(0, 0, 3, 10), false);
    for (int bad : FAR_OFF) {
      c.due("of PERSON " + bad, x.know(bad, 0, 3, 9), false);
      c.due("LINE " + bad, x.know(0, bad, 3, 9), false);
      c.due("WORDING " + bad, x.know(0, 0, bad, 9), false);
      c.due("by " + bad, x.know(0, 0, 3, bad), false);
    }
    c.due("nothing is done", Scene.all(x).equals(before), true);
  }

  private static void teach(Check c) {
    LawRock x = Scene.rockWithLine(3);
    x.know(2, 0, 4, 1);
    c.due("by the last", x.teach(2, 0, 0), true);
    c.due("WORDING", x.has(0, 0, 0), 4);
    c.due("STRENGTH", x.has(0, 0, 1), 4);
    c.due("from the last", x.has(0, 0, 2), 2);
    c.due("by one that learned in this SUMMER", x.teach(0, 1, 0), true);
    c.due("from the first", x.has(1, 0, 2), 0);
    c.due("the teacher's STRENGTH", x.has(2, 0, 1), 1);
  }

  private static void teachNot(Check c) {
    LawRock x = Scene.rockWithLine(5);
    x.line(1, false);
    Scene.know(x, 1, 2, -1, -1, 3);
    x.dies(3);
    x.dies(4);
    x.know(0, 1, 1, 5);
    x.know(1, 1, 1, 5);
    x.teach(0, 2, 1);
    String before = Scene.all(x);
    c.due("q HAS it", x.teach(0, 1, 0), false);
    c.due("q is p", x.teach(0, 0, 0), false);
    c.due("p has it not", x.teach(2, 3, 0), false);
    c.due("p is dead", x.teach(4, 2, 0), false);
    c.due("q is dead", x.teach(0, 3, 0), false);
    c.due("q was TAUGHT in this SUMMER", x.teach(0, 2, 0), false);
    c.due("p is not there", x.teach(5, 2, 0), false);
    c.due("q is not there", x.teach(0, 5, 0), false);
    c.due("LINE 2", x.teach(0, 2, 2), false);
    for (int bad : FAR_OFF) {
      c.due("p " + bad, x.teach(bad, 2, 0), false);
      c.due("q " + bad, x.teach(0, bad, 0), false);
      c.due("LINE " + bad, x.teach(0, 2, bad), false);
    }
    c.due("nothing is done", Scene.all(x).equals(before), true);
  }

  private static void has(Check c) {
    LawRock x = Scene.rockWithLine(3);
    x.know(0, 0, 0, 9);
    x.teach(0, 1, 0);
    x.summers(1);
    int[][] due = {{0, 9, -1}, {0, 7, 0}, {0, 3, 100}};
    for (int p = 0; p < 3; p++) {
      for (int what = 0; what < 3; what++) {
        c.due("has(" + p + ", 0, " + what + ")", x.has(p, 0, what), due[p][what]);
      }
    }
    x.dies(2);
    c.due("of a dead one", x.has(2, 0, 1), 3);
  }

  private static void hasNot(Check c) {
    LawRock x = Scene.rock(1);
    x.line(1, false);
    int[] due = {-1, 0, -1};
    for (int what = 0; what < 3; what++) {
      c.due("never: has(0, 0, " + what + ")", x.has(0, 0, what), due[what]);
    }
    x.know(0, 0, 3, 1);
    x.summers(1);
    for (int what = 0; what < 3; what++) {
      c.due("no more: has(0, 0, " + what + ")", x.has(0, 0, what), due[what]);
    }
    x.dies(0);
    c.due("a dead one", x.has(0, 0, 1), 0);
  }

  private static void hasNothing(Check c) {
    LawRock x = Scene.rockWithLine(1);
    Scene.know(x, 1);
    c.due("has(1, 0, 1)", x.has(1, 0, 1), -1);
    c.due("has(0, 1, 1)", x.has(0, 1, 1), -1);
    for (int bad : FAR_OFF) {
      for (int what = 0; what < 3; what++) {
        c.due("has(" + bad + ", 0, " + what + ")", x.has(bad, 0, what), -1);
        c.due("has(0, " + bad + ", " + what + ")", x.has(0, bad, what), -1);
      }
      c.due("has(0, 0, " + bad + ")", x.has(0, 0, bad), -1);
    }
    c.due("has(0, 0, 3)", x.has(0, 0, 3), -1);
    c.due("has(1, 0, 3)", x.has(1, 0, 3), -1);
  }

  private static void summers(Check c) {
    LawRock x = new LawRock();
    c.due("1", x.summers(1), 1);
    c.due("20", x.summers(20), 21);
    c.due("19", x.summers(19), 40);
    LawRock y = Scene.rock(1);
    LawRock z = Scene.rock(1);
    for (int l = 0; l < 3; l++) {
      y.line(l, false);
      y.know(0, l, l, 9);
      z.line(l, false);
      z.know(0, l, l, 9);
    }
    y.summers(7);
    for (int i = 0; i < 7; i++) {
      z.summers(1);
    }
    c.due("7 at once are 7 one by one", Scene.all(y).equals(Scene.all(z)), true);
  }

  private static void summersNot(Check c) {
    LawRock x = Scene.rockWithLine(1);
    Scene.know(x, 1);
    x.away(0);
    String before = Scene.all(x);
    for (int n : new int[] {0, -1, 21, 200, Integer.MIN_VALUE, Integer.MAX_VALUE}) {
      c.due("summers(" + n + ")", x.summers(n), -1);
    }
    c.due("nothing is done", Scene.all(x).equals(before), true);
  }

  private static void summersBeyond(Check c) {
    LawRock x = Scene.rockWithLine(1);
    Scene.pass(x, 180);
    x.know(0, 0, 1, 9);
    x.away(0);
    String before = Scene.all(x);
    c.due("20 from 180", x.summers(20), -1);
    c.due("nothing is done", Scene.all(x).equals(before), true);
    c.due("19 from 180", x.summers(19), 199);
    before = Scene.all(x);
    c.due("1 from 199", x.summers(1), -1);
    c.due("20 from 199", x.summers(20), -1);
    c.due("nothing is done at the last", Scene.all(x).equals(before), true);
  }

  private static void lineOf(Check c) {
    LawRock x = new LawRock();
    for (int l = 0; l < 6; l++) {
      x.line(l % 3, l >= 3);
    }
    for (int l = 0; l < 6; l++) {
      c.due("SECTION of " + l, x.lineOf(l, 0), l % 3);
      c.due("VERSE " + l, x.lineOf(l, 1), l / 3);
    }
  }

  private static void silences(Check c) {
    LawRock x = Scene.rockWithLine(1);
    int[] due = {1, 1, 1, 2, 2, 2, 0, 0, 0, 1, 1, 1, 2, 2, 2, 3, 3, 3, 3};
    c.due("at first", x.lineOf(0, 2), 0);
    for (int t = 0; t < due.length; t++) {
      if (t == 6) {
        x.know(0, 0, 1, 1);
      }
      if (t == 7) {
        x.dies(0);
      }
      x.summers(1);
      c.due("behind " + t, x.lineOf(0, 2), due[t]);
    }
  }

  private static void lineDeath(Check c) {
    for (int section = 0; section < 3; section++) {
      LawRock x = new LawRock();
      x.line(section, false);
      x.summers(section + 6);
      c.due("SECTION " + section + " after two times", x.lineOf(0, 3), -1);
      x.summers(1);
      c.due("SECTION " + section + " after three times", x.lineOf(0, 3), section + 6);
      x.summers(3);
      c.due("SECTION " + section + " later", x.lineOf(0, 3), section + 6);
    }
    LawRock y = new LawRock();
    Scene.pass(y, 190);
    y.line(0, false);
    y.summers(8);
    c.due("SILENT in 192, 195", y.lineOf(0, 3), -1);
    y.summers(1);
    c.due("SILENT in 192, 195, 198", y.lineOf(0, 3), 198);
  }

  private static void holders(Check c) {
    LawRock x = Scene.rockWithLine(24);
    c.due("nobody", x.lineOf(0, 4), 0);
    for (int p = 0; p < 24; p++) {
      x.know(p, 0, p % 5, 1);
    }
    c.due("all", x.lineOf(0, 4), 24);
    for (int p = 0; p < 23; p++) {
      x.dies(p);
    }
    x.away(23);
    c.due("one that lives, though AWAY", x.lineOf(0, 4), 1);
    x.dies(23);
    c.due("nobody that lives", x.lineOf(0, 4), 0);
  }

  private static void unlikeWordings(Check c) {
    LawRock x = new LawRock();
    Scene.wordings(x, 32);
    x.line(0, false);
    c.due("none", x.lineOf(0, 5), 0);
    for (int p = 0; p < 24; p++) {
      x.person(0, 0, 0);
      x.know(p, 0, 31 - p, 1);
    }
    c.due("24, the last of all among them", x.lineOf(0, 5), 24);
    x.know(0, 0, 8, 1);
    c.due("two alike", x.lineOf(0, 5), 23);
    x.dies(1);
    c.due("of those that live", x.lineOf(0, 5), 22);
    for (int p = 2; p < 24; p++) {
      x.dies(p);
    }
    c.due("of one", x.lineOf(0, 5), 1);
  }

  private static void timesSaid(Check c) {
    LawRock x = Scene.rockWithLine(1);
    x.know(0, 0, 1, 9);
    c.due("never", x.lineOf(0, 6), 0);
    x.summers(1);
    c.due("once", x.lineOf(0, 6), 1);
    x.summers(2);
    c.due("once still", x.lineOf(0, 6), 1);
    x.away(0);
    x.summers(1);
    c.due("SILENT", x.lineOf(0, 6), 1);
    x.summers(3);
    c.due("twice", x.lineOf(0, 6), 2);
    Scene.pass(x, 192);
    c.due("in all 67 but one", x.lineOf(0, 6), 66);
  }

  private static void lineOfNothing(Check c) {
    LawRock x = Scene.rockWithLine(1);
    for (int what = 0; what <= 6; what++) {
      c.due("lineOf(1, " + what + ")", x.lineOf(1, what), -1);
    }
    for (int bad : FAR_OFF) {
      for (int what = 0; what <= 6; what++) {
        c.due("lineOf(" + bad + ", " + what + ")", x.lineOf(bad, what), -1);
      }
      c.due("lineOf(0, " + bad + ")", x.lineOf(0, bad), -1);
    }
    c.due("lineOf(0, 7)", x.lineOf(0, 7), -1);
  }

  private static void said(Check c) {
    LawRock x = Scene.rockWithLine(1);
    x.line(0, false);
    x.know(0, 0, 0, 9);
    x.know(0, 1, 4, 9);
    x.summers(1);
    c.due("WORDING 0", x.said(0, 0), 0);
    c.due("the last WORDING", x.said(1, 0), 4);
    Scene.pass(x, 198);
    c.due("in 198", x.said(0, 198), 0);
    c.due("in 0 still", x.said(0, 0), 0);
  }

  private static void saidSilent(Check c) {
    LawRock x = Scene.rockWithLine(1);
    x.summers(7);
    for (int k = 0; k <= 6; k++) {
      c.due("in " + k, x.said(0, k), k % 3 == 0 ? -1 : -2);
    }
  }

  private static void saidNeither(Check c) {
    LawRock x = Scene.rock(1);
    x.summers(4);
    x.line(0, false);
    x.line(2, false);
    x.know(0, 1, 1, 9);
    x.summers(14);
    c.due("not there yet", x.said(0, 3), -2);
    c.due("SILENT", x.said(0, 6), -1);
    c.due("not its SECTION", x.said(0, 7), -2);
    c.due("SILENT as it DIED", x.said(0, 12), -1);
    c.due("DEAD ahead", x.said(0, 15), -2);
    c.due("not there yet", x.said(1, 2), -2);
    c.due("SAID", x.said(1, 5), 1);
    LawRock y = Scene.rockWithLine(1);
    y.summers(2);
    y.line(1, false);
    y.summers(1);
    c.due("come in the SUMMER behind its SECTION's", y.said(1, 1), -2);
    LawRock z = Scene.rock(1);
    z.summers(3);
    z.line(0, false);
    z.summers(1);
    c.due("come in its SECTION's SUMMER", z.said(0, 3), -1);
  }

  private static void saidNothing(Check c) {
    LawRock x = Scene.rockWithLine(1);
    Scene.know(x, 1);
    x.summers(3);
    c.due("in NOW", x.said(0, 3), -2);
    c.due("behind NOW", x.said(0, 6), -2);
    c.due("LINE 1", x.said(1, 0), -2);
    for (int bad : FAR_OFF) {
      c.due("in " + bad, x.said(0, bad), -2);
      c.due("LINE " + bad, x.said(bad, 0), -2);
    }
    c.due("in 199", x.said(0, 199), -2);
    c.due("in 200", x.said(0, 200), -2);
  }

  private static void stood(Check c) {
    LawRock x = Scene.rockWithLine(1);
    x.know(0, 0, 0, 9);
    x.summers(1);
    c.due("WORDING 0 at NOW less 1", x.stood(0, 0), 0);
    x.know(0, 0, 4, 9);
    x.summers(3);
    int[] due = {0, 0, 0, 4};
    for (int k = 0; k < due.length; k++) {
      c.due("at " + k, x.stood(0, k), due[k]);
    }
    Scene.pass(x, 195);
    c.due("at 198", x.stood(0, 198), 4);
    c.due("at 2 still", x.stood(0, 2), 0);
  }

  private static void stoodNone(Check c) {
    LawRock x = Scene.rock(1);
    x.line(2, false);
    x.summers(3);
    c.due("SILENT alone", x.stood(0, 2), -1);
    x.know(0, 0, 1, 9);
    x.summers(3);
    c.due("SAID", x.stood(0, 5), 1);
    c.due("ahead of it", x.stood(0, 4), -1);
    x.dies(0);
    x.summers(9);
    c.due("SILENT twice", x.stood(0, 13), 1);
    c.due("DEAD", x.stood(0, 14), -1);
  }

  private static void stoodNothing(Check c) {
    LawRock x = Scene.rockWithLine(1);
    Scene.know(x, 1);
    x.summers(3);
    c.due("at NOW", x.stood(0, 3), -1);
    c.due("LINE 1", x.stood(1, 0), -1);
    for (int bad : FAR_OFF) {
      c.due("at " + bad, x.stood(0, bad), -1);
      c.due("LINE " + bad, x.stood(bad, 0), -1);
    }
    c.due("at 199", x.stood(0, 199), -1);
    c.due("at 200", x.stood(0, 200), -1);
  }
}
