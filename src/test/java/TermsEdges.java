/** The edges that the terms name: summers, persons, lines and how persons have them. */
final class TermsEdges {
  private static final int FAR_DOWN = Integer.MIN_VALUE;
  private static final int FAR_UP = Integer.MAX_VALUE;

  private TermsEdges() {
  }

  static void test(Sentences s) {
    s.in("What it is");
    s.test("An object is used for at most 512 calls after it has been made; what later calls answer is free.", TermsEdges::callCount);
    s.in("Terms");
    s.test("SUMMERS 0 .. 199; NOW is one (0 at first).", TermsEdges::summers);
    s.test("PERSONS 0 .. 23, numbered as they come", TermsEdges::persons);
    s.test("a QUARTER 0 .. 3", TermsEdges::quarters);
    s.test("a FAMILY 0 .. 7", TermsEdges::families);
    s.test("BORN in a SUMMER -90 .. NOW.", TermsEdges::births);
    s.test("They DIE in a SUMMER (NOW; once).", TermsEdges::deaths);
    s.test("A FAMILY may HOLD to its wordings (not at first).", TermsEdges::holding);
    s.test("AWAY in NOW is told of PERSONS.", TermsEdges::awayOnes);
    s.test("LINES 0 .. 23, numbered as they come", TermsEdges::lines);
    s.test("a SECTION 0 .. 2", TermsEdges::sections);
    s.test("VERSE or not.", TermsEdges::verses);
    s.test("A PERSON HAS a LINE in a WORDING by a STRENGTH 1 .. 9", TermsEdges::strengths);
    s.test("from somebody: a PERSON, 100 THE ROCK, or nobody (told).", TermsEdges::sources);
    s.test("Who DIED keeps what it HAD.", TermsEdges::theDeadKeep);
  }

  private static void callCount(Check c) {
    LawRock x = new LawRock();
    for (int p = 0; p < 24; p++) {
      x.person(0, 0, 0);
    }
    for (int i = 24; i < 509; i++) {
      c.due("call " + (i + 1), x.look(1), 24);
    }
    c.due("call 510", x.dies(23), true);
    c.due("call 511", x.summers(20), 20);
    c.due("call 512", x.look(2), 23);
  }

  private static void summers(Check c) {
    LawRock x = new LawRock();
    c.due("look(0) at first", x.look(0), 0);
    Scene.pass(x, 198);
    c.due("summers(2) beyond the last", x.summers(2), -1);
    c.due("summers(1) to the last", x.summers(1), 199);
    c.due("summers(1) beyond the last", x.summers(1), -1);
    c.due("look(0) at last", x.look(0), 199);
  }

  private static void persons(Check c) {
    LawRock x = new LawRock();
    c.due("of(0, 0) of nobody", x.of(0, 0), -100);
    for (int p = 0; p <= 23; p++) {
      c.due("person", x.person(p % 4, 7 - p % 8, -p), p);
    }
    c.due("the 25th", x.person(0, 0, 0), -1);
    c.due("PERSONS", x.look(1), 24);
    c.due("QUARTER of the last", x.of(23, 0), 3);
    c.due("FAMILY of the last", x.of(23, 1), 0);
    c.due("BORN of the last", x.of(23, 2), -23);
    c.due("of(24, 0)", x.of(24, 0), -100);
  }

  private static void quarters(Check c) {
    LawRock x = new LawRock();
    for (int bad : new int[] {-1, 4, FAR_DOWN, FAR_UP}) {
      c.due("quarter " + bad, x.person(bad, 0, 0), -1);
    }
    c.due("PERSONS", x.look(1), 0);
    for (int quarter = 0; quarter <= 3; quarter++) {
      c.due("quarter " + quarter, x.person(quarter, 0, 0), quarter);
      c.due("of", x.of(quarter, 0), quarter);
    }
  }

  private static void families(Check c) {
    LawRock x = new LawRock();
    for (int bad : new int[] {-1, 8, FAR_DOWN, FAR_UP}) {
      c.due("family " + bad, x.person(0, bad, 0), -1);
      c.due("holds " + bad, x.holds(bad, true), false);
    }
    c.due("PERSONS", x.look(1), 0);
    for (int family = 0; family <= 7; family++) {
      c.due("family " + family, x.person(0, family, 0), family);
      c.due("of", x.of(family, 1), family);
      c.due("holds " + family, x.holds(family, true), true);
    }
  }

  private static void births(Check c) {
    LawRock x = new LawRock();
    for (int bad : new int[] {-91, 1, FAR_DOWN, FAR_UP}) {
      c.due("born " + bad, x.person(0, 0, bad), -1);
    }
    c.due("born -90", x.person(0, 0, -90), 0);
    c.due("of", x.of(0, 2), -90);
    c.due("born 0", x.person(0, 0, 0), 1);
    x.summers(3);
    c.due("born 4 in 3", x.person(0, 0, 4), -1);
    c.due("born 3 in 3", x.person(0, 0, 3), 2);
    c.due("of", x.of(2, 2), 3);
    c.due("born -90 in 3", x.person(0, 0, -90), 3);
    c.due("born -91 in 3", x.person(0, 0, -91), -1);
  }

  private static void deaths(Check c) {
    LawRock x = Scene.rock(3);
    c.due("dies in 0", x.dies(0), true);
    c.due("DIED in 0", x.of(0, 3), 0);
    x.summers(3);
    c.due("dies in 3", x.dies(1), true);
    c.due("dies twice", x.dies(1), false);
    x.summers(1);
    c.due("dies later on", x.dies(1), false);
    c.due("DIED in 3", x.of(1, 3), 3);
    c.due("lives", x.of(2, 3), -1);
  }

  private static void holding(Check c) {
    for (int family = 0; family <= 7; family++) {
      LawRock x = Scene.rockWithLine(8);
      Scene.know(x, 2, 2, 2, 2, 2, 2, 2, 2);
      x.person(0, (family + 1) % 8, -30);
      x.know(8, 0, 1, 9);
      x.speaker(8);
      x.holds(family, true);
      x.summers(1);
      for (int p = 0; p <= 7; p++) {
        c.due("FAMILY " + family + " HOLDS, wording of " + p, x.has(p, 0, 0), p == family ? 2 : 1);
      }
    }
  }

  private static void awayOnes(Check c) {
    LawRock x = Scene.rockWithLine(2);
    Scene.know(x, 3);
    c.due("at first", x.of(1, 6), 0);
    x.away(1);
    c.due("in NOW", x.of(1, 6), 1);
    x.summers(1);
    c.due("in the next", x.of(1, 6), 0);
    c.due("it was not there", x.has(1, 0, 1), 0);
    x.summers(3);
    c.due("it was there later", x.has(1, 0, 1), 3);
  }

  private static void lines(Check c) {
    LawRock x = new LawRock();
    c.due("lineOf(0, 0) of none", x.lineOf(0, 0), -1);
    for (int l = 0; l <= 23; l++) {
      c.due("line", x.line((l + 1) % 3, l % 2 == 0), l);
    }
    c.due("the 25th", x.line(0, false), -1);
    c.due("LINES", x.look(3), 24);
    c.due("SECTION of the last", x.lineOf(23, 0), 0);
    c.due("lineOf(24, 0)", x.lineOf(24, 0), -1);
  }

  private static void sections(Check c) {
    LawRock x = new LawRock();
    for (int bad : new int[] {-1, 3, FAR_DOWN, FAR_UP}) {
      c.due("section " + bad, x.line(bad, false), -1);
    }
    c.due("LINES", x.look(3), 0);
    for (int section = 0; section <= 2; section++) {
      c.due("section " + section, x.line(section, false), section);
      c.due("lineOf", x.lineOf(section, 0), section);
    }
  }

  private static void verses(Check c) {
    LawRock x = new LawRock();
    x.line(0, true);
    x.line(0, false);
    c.due("a verse", x.lineOf(0, 1), 1);
    c.due("none", x.lineOf(1, 1), 0);
  }

  private static void strengths(Check c) {
    LawRock x = Scene.rockWithLine(1);
    for (int bad : new int[] {0, 10, -1, FAR_DOWN, FAR_UP}) {
      c.due("strength " + bad, x.know(0, 0, 4, bad), false);
      c.due("does not HAVE it", x.has(0, 0, 1), 0);
    }
    for (int strength = 1; strength <= 9; strength++) {
      c.due("strength " + strength, x.know(0, 0, 4, strength), true);
      c.due("has", x.has(0, 0, 1), strength);
    }
  }

  private static void sources(Check c) {
    LawRock x = Scene.rockWithLine(3);
    x.know(0, 0, 2, 5);
    x.teach(0, 1, 0);
    c.due("told", x.has(0, 0, 2), -1);
    c.due("taught by PERSON 0", x.has(1, 0, 2), 0);
    x.summers(1);
    c.due("heard", x.has(2, 0, 2), 100);
    c.due("still taught", x.has(1, 0, 2), 0);
    x.know(2, 0, 2, 5);
    c.due("told in place of heard", x.has(2, 0, 2), -1);
    x.know(1, 0, 2, 5);
    c.due("told in place of taught", x.has(1, 0, 2), -1);
  }

  private static void theDeadKeep(Check c) {
    LawRock x = Scene.rockWithLine(2);
    x.line(1, false);
    x.know(0, 0, 2, 1);
    x.know(0, 1, 3, 1);
    x.know(1, 0, 4, 9);
    x.dies(0);
    x.summers(4);
    c.due("neither said nor faded, WORDING", x.has(0, 0, 0), 2);
    c.due("neither said nor faded, STRENGTH", x.has(0, 0, 1), 1);
    c.due("not faded to 0, WORDING", x.has(0, 1, 0), 3);
    c.due("not faded to 0, STRENGTH", x.has(0, 1, 1), 1);
    c.due("how many it HAS", x.of(0, 5), 2);
    c.due("but who lives is counted alone", x.lineOf(0, 4), 1);
    c.due("and the line that it alone had is SILENT", x.said(1, 1), -1);
  }
}
