/** The edges of part 2: who is present, what stands, what is gained, lost and taught. */
final class SummerEdges {
  private SummerEdges() {
  }

  static void test(Sentences s) {
    s.in("Terms");
    s.test("==== 2. A SUMMER t goes by.", SummerEdges::goesBy);
    s.test("PRESENT are PERSONS that live, are not AWAY and no OUTLAWS.", SummerEdges::present);
    s.test("Of each LINE that is not DEAD, of SECTION t modulo 3, by numbers:", SummerEdges::sections);
    s.test("if nobody PRESENT HAS it, it is SILENT;", SummerEdges::silence);
    s.test("the third time one behind the other it is DEAD from then on.", SummerEdges::thirdSilence);
    s.test("Else it is SAID, in the WORDING that STANDS.", SummerEdges::saidOnes);
    s.test("By WAY 0 (at first): THE SPEAKER's, if that PERSON is PRESENT and HAS it;", SummerEdges::speakersWay);
    s.test("else as WAY 1:", SummerEdges::elseAsWayOne);
    s.test("that which the most PRESENT HAVE.", SummerEdges::mostsWay);
    s.test("WAY 2: each QUARTER has a voice for the WORDING which the most of its PRESENT HAVE", SummerEdges::quartersWay);
    s.test("(of several the least; none without);", SummerEdges::quartersWithSeveralOrNone);
    s.test("that of the most voices.", SummerEdges::mostVoices);
    s.test("Of several by WAY 1 or 2: THE SPEAKER's, if it is one of them (THE SPEAKER PRESENT), else the least.", SummerEdges::several);
    s.test("As it is SAID, each PRESENT one that HAS it gains 3 of STRENGTH (9 at most),", SummerEdges::gains);
    s.test("and has the WORDING that STANDS then (from THE ROCK, if that was another one), unless its FAMILY HOLDS;",
        SummerEdges::takesTheWording);
    s.test("each other PRESENT one of 12 .. 40 years (t less BORN) HAS it by 3, from THE ROCK.", SummerEdges::listeners);
    s.test("Behind all LINES, of each that was not SAID in t each PERSON that lives loses 1 of STRENGTH", SummerEdges::losses);
    s.test("(of VERSE only if t modulo 3 is 2);", SummerEdges::verses);
    s.test("at 0 it HAS it no more.", SummerEdges::atZero);
    s.test("Then AWAY is forgotten, and NOW is one more.", SummerEdges::awayIsForgotten);
    s.test("TAUGHT is one that lives and does not HAVE a LINE by one that lives and HAS it: in that one's WORDING, by 4;",
        SummerEdges::teaching);
    s.test("each once a SUMMER.", SummerEdges::onceASummer);
  }

  private static void has(Check c, LawRock x, int p, int wording, int strength, int from) {
    c.due("WORDING of " + p, x.has(p, 0, 0), wording);
    c.due("STRENGTH of " + p, x.has(p, 0, 1), strength);
    c.due("from whom " + p, x.has(p, 0, 2), from);
  }

  private static void goesBy(Check c) {
    LawRock x = new LawRock();
    c.due("summers(1) with nobody and no line", x.summers(1), 1);
    x.line(1, false);
    c.due("summers(1) with a line and nobody", x.summers(1), 2);
    x.person(0, 0, 0);
    c.due("summers(20)", x.summers(20), 22);
  }

  private static void present(Check c) {
    LawRock x = Scene.rockWithLine(4);
    Scene.know(x, 0, 1, 2, 3);
    x.know(3, 0, 3, 9);
    x.away(0);
    x.away(1);
    x.dies(2);
    x.summers(1);
    c.due("two AWAY and one dead", x.said(0, 0), 3);
    has(c, x, 0, 0, 5, -1);
    has(c, x, 2, 2, 5, -1);
    has(c, x, 3, 3, 9, -1);
    LawRock y = Scene.rockWithLine(3);
    Scene.know(y, 0, 1, 1);
    y.speaker(1);
    y.holds(1, true);
    y.summers(1);
    y.suit(0, 1, 0, 0, 0, 0);
    y.know(0, 0, 2, 5);
    y.know(2, 0, 2, 5);
    y.summers(2);
    c.due("an OUTLAW", y.of(1, 4), 1);
    y.summers(1);
    c.due("an OUTLAW speaks not", y.said(0, 3), 2);
    c.due("and gains nothing", y.has(1, 0, 1), 6);
    LawRock z = Scene.rockWithLine(1);
    Scene.know(z, 1);
    z.away(0);
    z.summers(1);
    c.due("nobody is PRESENT", z.said(0, 0), -1);
  }

  private static void sections(Check c) {
    LawRock x = Scene.rock(1);
    for (int section = 2; section >= 0; section--) {
      x.line(section, true);
      x.know(0, 2 - section, section, 9);
    }
    x.summers(8);
    for (int l = 0; l < 3; l++) {
      for (int t = 0; t < 8; t++) {
        c.due("line of SECTION " + (2 - l) + " in " + t, x.said(l, t), t % 3 == 2 - l ? 2 - l : -2);
      }
    }
    Scene.pass(x, 190);
    c.due("SECTION 2 in 197", x.said(0, 197), 2);
    c.due("SECTION 1 in 197", x.said(1, 197), -2);
    x.summers(1);
    c.due("SECTION 0 in 198", x.said(2, 198), 0);
    LawRock y = Scene.rock(1);
    for (int l = 0; l < 24; l++) {
      y.line(0, false);
      y.know(0, l, l % 5, 1);
    }
    y.summers(1);
    for (int l = 0; l < 24; l++) {
      c.due("24 lines of one SECTION", y.said(l, 0), l % 5);
    }
  }

  private static void silence(Check c) {
    LawRock x = Scene.rockWithLine(0);
    x.summers(1);
    c.due("without any PERSON", x.said(0, 0), -1);
    c.due("SILENT once", x.lineOf(0, 2), 1);
    c.due("never SAID", x.lineOf(0, 6), 0);
    LawRock y = Scene.rockWithLine(2);
    y.know(0, 0, 1, 9);
    y.away(0);
    y.summers(1);
    c.due("who HAS it is not PRESENT, who is PRESENT has it not", y.said(0, 0), -1);
    c.due("and hears nothing", y.has(1, 0, 1), 0);
    y.summers(3);
    c.due("SAID later", y.said(0, 3), 1);
  }

  private static void thirdSilence(Check c) {
    LawRock x = Scene.rockWithLine(1);
    x.summers(1);
    c.due("once", x.lineOf(0, 3), -1);
    x.summers(3);
    c.due("twice", x.lineOf(0, 3), -1);
    c.due("twice, DEAD ones", x.look(4), 0);
    x.know(0, 0, 1, 9);
    x.summers(3);
    c.due("SAID between", x.said(0, 6), 1);
    c.due("none one behind the other", x.lineOf(0, 2), 0);
    x.dies(0);
    x.summers(6);
    c.due("twice again, the fourth in all", x.lineOf(0, 3), -1);
    c.due("twice one behind the other", x.lineOf(0, 2), 2);
    x.summers(3);
    c.due("the third time", x.lineOf(0, 3), 15);
    c.due("the third time, DEAD ones", x.look(4), 1);
    c.due("it was SILENT then", x.said(0, 15), -1);
    x.person(0, 0, -10);
    x.know(1, 0, 1, 9);
    x.summers(3);
    c.due("from then on it is neither", x.said(0, 18), -2);
    c.due("though it is known", x.has(1, 0, 1), 6);
    c.due("and stays DEAD", x.lineOf(0, 3), 15);
    c.due("and is SILENT no more times", x.lineOf(0, 2), 3);
  }

  private static void saidOnes(Check c) {
    LawRock x = Scene.rockWithLine(1);
    x.know(0, 0, 4, 1);
    x.summers(1);
    c.due("one PRESENT by a STRENGTH of 1", x.said(0, 0), 4);
    c.due("SAID once", x.lineOf(0, 6), 1);
    c.due("SILENT never", x.lineOf(0, 2), 0);
  }

  private static void speakersWay(Check c) {
    LawRock x = Scene.rockWithLine(5);
    Scene.know(x, 0, 0, 0, 4, 0);
    x.speaker(3);
    x.summers(1);
    c.due("WAY at first", x.look(8), 0);
    c.due("THE SPEAKER's against the most", x.said(0, 0), 4);
    LawRock y = Scene.rockWithLine(5);
    Scene.know(y, 3, 0, 0, 0, 0);
    y.speaker(0);
    y.summers(1);
    c.due("PERSON 0 as THE SPEAKER", y.said(0, 0), 3);
  }

  private static void elseAsWayOne(Check c) {
    LawRock x = Scene.rockWithLine(4);
    Scene.know(x, -1, 1, 2, 2);
    x.speaker(0);
    x.summers(1);
    c.due("THE SPEAKER has it not", x.said(0, 0), 2);
    LawRock y = Scene.rockWithLine(4);
    Scene.know(y, 0, 1, 2, 2);
    y.summers(1);
    c.due("there is no SPEAKER", y.said(0, 0), 2);
    LawRock z = Scene.rockWithLine(4);
    Scene.know(z, 0, 1, 2, 2);
    z.speaker(0);
    z.away(0);
    z.summers(1);
    c.due("THE SPEAKER is AWAY", z.said(0, 0), 2);
    LawRock u = Scene.rockWithLine(4);
    Scene.know(u, 0, 1, 2, 2);
    u.speaker(0);
    u.dies(0);
    u.summers(1);
    c.due("THE SPEAKER died", u.said(0, 0), 2);
    LawRock v = Scene.rockWithLine(4);
    Scene.know(v, -1, 2, 1, -1);
    v.speaker(0);
    v.summers(1);
    c.due("of several the least", v.said(0, 0), 1);
  }

  private static void mostsWay(Check c) {
    LawRock x = Scene.rockWithLine(6);
    x.way(1);
    Scene.know(x, 0, 0, 4, 4, 4, 1);
    x.speaker(0);
    x.summers(1);
    c.due("three against THE SPEAKER's two", x.said(0, 0), 4);
    LawRock y = Scene.rockWithLine(6);
    y.way(1);
    Scene.know(y, 0, 0, 4, 4, 4, 1);
    y.away(3);
    y.dies(4);
    y.summers(1);
    c.due("the PRESENT alone are counted", y.said(0, 0), 0);
  }

  private static void quartersWay(Check c) {
    LawRock x = Scene.rockWithLine(12);
    x.way(2);
    // Quarters 0 .. 3 hold the persons p, p + 4, p + 8: wording 1 has the most heads, but only quarter 0's voice.
    Scene.know(x, 1, 2, 3, 3, 1, 2, 3, 3, 1, 1, 1, 1);
    x.summers(1);
    c.due("3 has two voices", x.said(0, 0), 3);
    LawRock y = Scene.rockWithLine(12);
    y.way(2);
    Scene.know(y, 1, 2, 3, 3, 1, 2, 3, 3, 1, 1, 1, 1);
    y.away(2);
    y.away(3);
    y.away(6);
    y.away(7);
    y.summers(1);
    c.due("the PRESENT of a QUARTER alone are counted", y.said(0, 0), 1);
  }

  private static void quartersWithSeveralOrNone(Check c) {
    LawRock x = Scene.rockWithLine(8);
    x.way(2);
    Scene.know(x, 3, 2, 4, 4, 1, 1, -1, -1);
    x.speaker(1);
    x.summers(1);
    c.due("1 is the least of two QUARTERS, though THE SPEAKER has 2", x.said(0, 0), 1);
    LawRock y = Scene.rockWithLine(8);
    y.way(2);
    Scene.know(y, -1, -1, -1, 3);
    y.summers(1);
    c.due("three QUARTERS are without a voice", y.said(0, 0), 3);
    LawRock z = Scene.rockWithLine(8);
    z.way(2);
    z.summers(1);
    c.due("all are without", z.said(0, 0), -1);
  }

  private static void mostVoices(Check c) {
    LawRock x = Scene.rockWithLine(4);
    x.way(2);
    Scene.know(x, 0, 1, 4, 4);
    x.speaker(0);
    x.summers(1);
    c.due("two voices", x.said(0, 0), 4);
    LawRock y = Scene.rockWithLine(4);
    y.way(2);
    y.line(0, false);
    Scene.know(y, 4, 4, 4, 4);
    y.know(0, 1, 3, 5);
    y.summers(1);
    c.due("all four voices", y.said(0, 0), 4);
    c.due("one voice, though another LINE had four", y.said(1, 0), 3);
    LawRock z = Scene.rockWithLine(4);
    z.way(2);
    Scene.know(z, 4, 3, 0, 0);
    z.summers(1);
    c.due("two voices for WORDING 0", z.said(0, 0), 0);
  }

  private static void several(Check c) {
    for (int way = 1; way <= 2; way++) {
      LawRock x = Scene.rockWithLine(4);
      x.way(way);
      Scene.know(x, 1, 2, 3, -1);
      x.speaker(2);
      x.summers(1);
      c.due("WAY " + way + ": THE SPEAKER's, one of them", x.said(0, 0), 3);
      LawRock y = Scene.rockWithLine(8);
      y.way(way);
      y.person(0, 0, -30);
      Scene.know(y, 3, 4, -1, -1, 3, 4, -1, -1, 2);
      y.speaker(8);
      y.summers(1);
      c.due("WAY " + way + ": THE SPEAKER's is none of them", y.said(0, 0), 3);
      LawRock z = Scene.rockWithLine(4);
      z.way(way);
      Scene.know(z, 1, 2, 3, 3);
      z.speaker(2);
      z.away(2);
      z.summers(1);
      c.due("WAY " + way + ": THE SPEAKER is AWAY", z.said(0, 0), 1);
      LawRock u = Scene.rockWithLine(8);
      u.way(way);
      Scene.know(u, 1, 1, 2, 2, -1, -1, -1, -1);
      u.speaker(3);
      u.dies(3);
      u.person(3, 0, -30);
      u.know(8, 0, 2, 9);
      u.summers(1);
      c.due("WAY " + way + ": THE SPEAKER died", u.said(0, 0), 1);
      LawRock v = Scene.rockWithLine(4);
      v.way(way);
      Scene.know(v, 4, 2, 3, -1);
      v.summers(1);
      c.due("WAY " + way + ": no SPEAKER", v.said(0, 0), 2);
    }
  }

  private static void gains(Check c) {
    LawRock x = Scene.rockWithLine(9);
    for (int p = 0; p < 9; p++) {
      x.know(p, 0, 0, p + 1);
    }
    x.summers(1);
    int[] due = {4, 5, 6, 7, 8, 9, 9, 9, 9};
    for (int p = 0; p < 9; p++) {
      c.due("STRENGTH " + (p + 1) + " as it was SAID", x.has(p, 0, 1), due[p]);
    }
    LawRock y = Scene.rockWithLine(0);
    y.person(0, 0, 0);
    y.person(0, 0, -90);
    y.know(0, 0, 0, 5);
    y.know(1, 0, 0, 5);
    y.summers(1);
    c.due("at 0 years", y.has(0, 0, 1), 8);
    c.due("at 90 years", y.has(1, 0, 1), 8);
  }

  private static void takesTheWording(Check c) {
    LawRock x = Scene.rockWithLine(5);
    Scene.know(x, 1, 1, 2, 2, -1);
    x.teach(1, 4, 0);
    x.holds(3, true);
    x.speaker(0);
    x.summers(1);
    has(c, x, 0, 1, 8, -1);
    has(c, x, 1, 1, 8, -1);
    has(c, x, 2, 1, 8, 100);
    has(c, x, 3, 2, 8, -1);
    has(c, x, 4, 1, 7, 1);
    LawRock y = Scene.rockWithLine(2);
    Scene.know(y, 1, 2);
    y.speaker(0);
    y.holds(1, true);
    y.holds(1, false);
    y.summers(1);
    has(c, y, 1, 1, 8, 100);
  }

  private static void listeners(Check c) {
    LawRock x = Scene.rockWithLine(1);
    int[] born = {-11, -12, -40, -41};
    int[] due = {0, 3, 3, 0};
    for (int i = 0; i < born.length; i++) {
      x.person(0, 1, born[i]);
    }
    Scene.know(x, 2);
    x.holds(1, true);
    x.summers(1);
    for (int i = 0; i < born.length; i++) {
      has(c, x, 1 + i, due[i] == 0 ? -1 : 2, due[i], due[i] == 0 ? -1 : 100);
    }
    LawRock y = Scene.rockWithLine(1);
    int[] later = {-8, -9, -37, -38, 0, 3};
    int[] dueLater = {0, 3, 3, 0, 0, 0};
    y.summers(3);
    for (int i = 0; i < later.length; i++) {
      y.person(0, 1, later[i]);
    }
    Scene.know(y, 2);
    y.summers(1);
    for (int i = 0; i < later.length; i++) {
      c.due("in 3, BORN in " + later[i], y.has(1 + i, 0, 1), dueLater[i]);
    }
  }

  private static void losses(Check c) {
    LawRock x = Scene.rockWithLine(4);
    x.line(1, false);
    x.line(0, false);
    Scene.know(x, 1, 1, 1, 1);
    for (int p = 0; p < 4; p++) {
      x.know(p, 1, 1, 5);
    }
    x.know(2, 2, 1, 5);
    x.away(1);
    x.away(2);
    x.dies(3);
    x.summers(1);
    c.due("SAID, of one PRESENT", x.has(0, 0, 1), 8);
    c.due("SAID, of one AWAY", x.has(1, 0, 1), 5);
    c.due("another SECTION, of one PRESENT", x.has(0, 1, 1), 4);
    c.due("another SECTION, of one AWAY", x.has(1, 1, 1), 4);
    c.due("another SECTION, of one dead", x.has(3, 1, 1), 5);
    c.due("SILENT, of one AWAY", x.has(2, 2, 1), 4);
    LawRock y = Scene.rockWithLine(1);
    y.line(0, false);
    y.know(0, 0, 1, 1);
    y.know(0, 1, 1, 1);
    y.summers(1);
    c.due("what is SAID is had by 1 until then", y.has(0, 0, 1), 4);
    c.due("and so is a later LINE", y.has(0, 1, 1), 4);
    LawRock z = Scene.rockWithLine(1);
    z.summers(7);
    z.know(0, 0, 1, 5);
    c.due("a LINE that is DEAD", z.lineOf(0, 3), 6);
    z.summers(1);
    c.due("fades too", z.has(0, 0, 1), 4);
  }

  private static void verses(Check c) {
    int[][] due = {{5, 5, 4, 4, 4, 3, 3}, {5, 5, 4, 4, 4, 3, 3}, {5, 5, 4, 4, 4, 3, 3}};
    for (int section = 0; section < 3; section++) {
      LawRock x = Scene.rock(1);
      x.line(section, true);
      x.know(0, 0, 1, 5);
      for (int t = 0; t < 7; t++) {
        x.away(0);
        x.summers(1);
        c.due("a VERSE of SECTION " + section + " behind " + t, x.has(0, 0, 1), due[section][t]);
      }
    }
    LawRock y = Scene.rock(1);
    y.line(2, true);
    y.line(2, false);
    y.know(0, 0, 1, 5);
    y.know(0, 1, 1, 5);
    y.summers(2);
    c.due("a VERSE behind 1", y.has(0, 0, 1), 5);
    c.due("no VERSE behind 1", y.has(0, 1, 1), 3);
    y.summers(1);
    c.due("a VERSE that was SAID in 2", y.has(0, 0, 1), 8);
    c.due("no VERSE that was SAID in 2", y.has(0, 1, 1), 6);
  }

  private static void atZero(Check c) {
    LawRock x = Scene.rock(2);
    x.line(1, false);
    x.know(0, 0, 3, 2);
    x.summers(1);
    has(c, x, 0, 3, 1, -1);
    x.away(0);
    x.summers(1);
    has(c, x, 0, -1, 0, -1);
    c.due("how many it HAS", x.of(0, 5), 0);
    c.due("how many HAVE it", x.lineOf(0, 4), 0);
    c.due("it can't teach it", x.teach(0, 1, 0), false);
    x.summers(3);
    c.due("it can't say it", x.said(0, 4), -1);
    has(c, x, 0, -1, 0, -1);
    x.know(0, 0, 2, 1);
    x.teach(0, 1, 0);
    x.summers(1);
    has(c, x, 0, -1, 0, -1);
    has(c, x, 1, 2, 3, 0);
    c.due("who learned may teach back", x.teach(1, 0, 0), true);
    has(c, x, 0, 2, 4, 1);
  }

  private static void awayIsForgotten(Check c) {
    LawRock x = Scene.rockWithLine(2);
    x.away(0);
    x.away(1);
    c.due("NOW is one more", x.summers(1), 1);
    c.due("PERSON 0", x.of(0, 6), 0);
    c.due("PERSON 1", x.of(1, 6), 0);
    c.due("may be told anew", x.away(1), true);
    x.summers(2);
    c.due("it was for the first of two", x.of(1, 6), 0);
    x.know(1, 0, 2, 9);
    x.away(1);
    x.summers(4);
    c.due("AWAY in 3 alone", x.said(0, 3), -1);
    c.due("not in 6", x.said(0, 6), 2);
  }

  private static void teaching(Check c) {
    LawRock x = Scene.rockWithLine(6);
    Scene.know(x, 3, 4);
    x.dies(4);
    x.know(5, 0, 2, 5);
    x.dies(5);
    String before = Scene.all(x);
    c.due("itself", x.teach(0, 0, 0), false);
    c.due("who HAS it", x.teach(0, 1, 0), false);
    c.due("by one that has it not", x.teach(2, 3, 0), false);
    c.due("a dead one", x.teach(0, 4, 0), false);
    c.due("by a dead one", x.teach(5, 2, 0), false);
    c.due("nothing is done", Scene.all(x).equals(before), true);
    c.due("one that has it not", x.teach(1, 2, 0), true);
    has(c, x, 2, 4, 4, 1);
    has(c, x, 1, 4, 5, -1);
    x.away(0);
    x.away(3);
    c.due("AWAY does not hinder", x.teach(0, 3, 0), true);
    has(c, x, 3, 3, 4, 0);
    LawRock y = Scene.rockWithLine(2);
    y.know(0, 0, 1, 1);
    c.due("by one that HAS it by 1", y.teach(0, 1, 0), true);
    has(c, y, 1, 1, 4, 0);
  }

  private static void onceASummer(Check c) {
    LawRock x = Scene.rock(5);
    for (int l = 0; l < 3; l++) {
      x.line(2, true);
      x.know(0, l, l, 9);
      x.know(1, l, l, 9);
    }
    c.due("once", x.teach(0, 2, 0), true);
    c.due("twice", x.teach(0, 2, 1), false);
    c.due("twice, by another", x.teach(1, 2, 1), false);
    c.due("another one", x.teach(0, 3, 1), true);
    x.summers(1);
    c.due("in the next SUMMER", x.teach(0, 2, 1), true);
    c.due("twice in it", x.teach(0, 2, 2), false);
    c.due("a refused one does not count", x.teach(4, 3, 2), false);
    c.due("the third one", x.teach(1, 3, 2), true);
    x.know(4, 0, 0, 9);
    c.due("told does not count", x.teach(0, 4, 1), true);
  }
}
