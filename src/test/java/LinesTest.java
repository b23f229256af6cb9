/** Promises 13 to 20 and part 2 of the document: lines, who has them, and what summers do to them. */
public final class LinesTest {
  private static final Check CHECK = new Check("LinesTest");

  public static void main(String[] args) {
    lines();
    knowing();
    teaching();
    summers();
    sections();
    heardAtTheRock();
    listeners();
    fading();
    verses();
    absentOnes();
    outlawsAreNotHeard();
    speakersWay();
    mostsWay();
    quartersWay();
    silence();
    lateLine();
    lawAsItWas();
    lastSummer();
    CHECK.close();
  }

  /** Wordings 0 .. 4 and as many persons of 30 years in quarter and family p modulo 4. */
  private static LawRock rock(int persons) {
    LawRock x = new LawRock();
    for (int w = 0; w < 5; w++) {
      Check.wording(x, "marks " + w + ";");
    }
    for (int p = 0; p < persons; p++) {
      x.person(p % 4, p % 4, -30);
    }
    return x;
  }

  private static void has(LawRock x, int p, int l, int wording, int strength, int from) {
    CHECK.due("wording of " + p + " for " + l, x.has(p, l, 0), wording);
    CHECK.due("strength of " + p + " for " + l, x.has(p, l, 1), strength);
    CHECK.due("from whom " + p + " has " + l, x.has(p, l, 2), from);
  }

  private static void lines() {
    LawRock x = new LawRock();
    CHECK.due("line(-1)", x.line(-1, true), -1);
    CHECK.due("line(3)", x.line(3, true), -1);
    for (int l = 0; l < 24; l++) {
      CHECK.due("line " + l, x.line(l % 3, l % 2 == 1), l);
    }
    CHECK.due("line 24", x.line(0, false), -1);
    CHECK.due("look(3)", x.look(3), 24);
    int[] due = {2, 1, 0, -1, 0, 0, 0};
    for (int what = 0; what < due.length; what++) {
      CHECK.due("lineOf(5, " + what + ")", x.lineOf(5, what), due[what]);
    }
    CHECK.due("lineOf(4, 1)", x.lineOf(4, 1), 0);
    CHECK.due("lineOf(5, -1)", x.lineOf(5, -1), -1);
    CHECK.due("lineOf(5, 7)", x.lineOf(5, 7), -1);
    CHECK.due("lineOf(24, 0)", x.lineOf(24, 0), -1);
    CHECK.due("lineOf(-1, 0)", x.lineOf(-1, 0), -1);
  }

  private static void knowing() {
    LawRock x = rock(3);
    x.line(0, false);
    CHECK.due("know(3, ..)", x.know(3, 0, 0, 1), false);
    CHECK.due("know(-1, ..)", x.know(-1, 0, 0, 1), false);
    CHECK.due("know line 1", x.know(0, 1, 0, 1), false);
    CHECK.due("know line -1", x.know(0, -1, 0, 1), false);
    CHECK.due("know wording 5", x.know(0, 0, 5, 1), false);
    CHECK.due("know wording NONE", x.know(0, 0, -1, 1), false);
    CHECK.due("know by 0", x.know(0, 0, 0, 0), false);
    CHECK.due("know by 10", x.know(0, 0, 0, 10), false);
    has(x, 0, 0, -1, 0, -1);
    CHECK.due("know", x.know(0, 0, 4, 9), true);
    has(x, 0, 0, 4, 9, -1);
    CHECK.due("know anew", x.know(0, 0, 3, 1), true);
    has(x, 0, 0, 3, 1, -1);
    CHECK.due("has(0, 0, 3)", x.has(0, 0, 3), -1);
    CHECK.due("has(0, 0, -1)", x.has(0, 0, -1), -1);
    CHECK.due("has(3, 0, 1)", x.has(3, 0, 1), -1);
    CHECK.due("has(0, 1, 1)", x.has(0, 1, 1), -1);
    x.know(1, 0, 3, 2);
    x.know(2, 0, 1, 2);
    CHECK.due("how many have it", x.lineOf(0, 4), 3);
    CHECK.due("unlike wordings", x.lineOf(0, 5), 2);
    x.dies(2);
    CHECK.due("know of a dead one", x.know(2, 0, 0, 1), false);
    has(x, 2, 0, 1, 2, -1);
    CHECK.due("how many that live", x.lineOf(0, 4), 2);
    CHECK.due("unlike wordings of these", x.lineOf(0, 5), 1);
    x.summers(2);
    has(x, 2, 0, 1, 2, -1);
  }

  private static void teaching() {
    LawRock x = rock(5);
    x.line(0, false);
    x.line(1, false);
    x.know(0, 0, 3, 1);
    x.know(0, 1, 4, 1);
    CHECK.due("no such teacher", x.teach(5, 1, 0), false);
    CHECK.due("no such learner", x.teach(0, 5, 0), false);
    CHECK.due("no such line", x.teach(0, 1, 2), false);
    CHECK.due("a teacher without it", x.teach(2, 1, 0), false);
    CHECK.due("itself", x.teach(0, 0, 0), false);
    CHECK.due("teach", x.teach(0, 1, 0), true);
    has(x, 1, 0, 3, 4, 0);
    CHECK.due("who has it already", x.teach(0, 1, 0), false);
    CHECK.due("once a summer", x.teach(0, 1, 1), false);
    CHECK.due("a teacher may teach others", x.teach(0, 2, 1), true);
    CHECK.due("who learned may teach", x.teach(1, 3, 0), true);
    has(x, 3, 0, 3, 4, 1);
    x.dies(4);
    CHECK.due("a dead learner", x.teach(0, 4, 0), false);
    x.know(0, 1, 4, 9);
    x.away(1);
    x.summers(1);
    CHECK.due("in the next summer", x.teach(0, 1, 1), true);
    has(x, 1, 1, 4, 4, 0);
    x.dies(0);
    CHECK.due("a dead teacher", x.teach(0, 3, 1), false);
  }

  private static void summers() {
    LawRock x = new LawRock();
    CHECK.due("summers(0)", x.summers(0), -1);
    CHECK.due("summers(-1)", x.summers(-1), -1);
    CHECK.due("summers(21)", x.summers(21), -1);
    CHECK.due("summers(max)", x.summers(Integer.MAX_VALUE), -1);
    for (int n = 20; n <= 180; n += 20) {
      CHECK.due("summers to " + n, x.summers(20), n);
    }
    CHECK.due("beyond 199", x.summers(20), -1);
    CHECK.due("look(0)", x.look(0), 180);
    CHECK.due("to 199", x.summers(19), 199);
    CHECK.due("one more", x.summers(1), -1);
    CHECK.due("look(0) at the end", x.look(0), 199);
  }

  private static void sections() {
    LawRock x = rock(1);
    for (int l = 0; l < 3; l++) {
      x.line(l, true);
      x.know(0, l, l, 9);
    }
    x.summers(7);
    for (int l = 0; l < 3; l++) {
      for (int k = 0; k < 7; k++) {
        CHECK.due("said(" + l + ", " + k + ")", x.said(l, k), k % 3 == l ? l : -2);
      }
    }
    CHECK.due("said(0, 7)", x.said(0, 7), -2);
    CHECK.due("said(0, -1)", x.said(0, -1), -2);
    CHECK.due("said(3, 0)", x.said(3, 0), -2);
    CHECK.due("said(-1, 0)", x.said(-1, 0), -2);
    CHECK.due("how often said", x.lineOf(0, 6), 3);
    CHECK.due("how often said", x.lineOf(1, 6), 2);
  }

  private static void heardAtTheRock() {
    LawRock x = rock(4);
    x.line(0, false);
    x.know(0, 0, 1, 5);
    x.know(1, 0, 1, 7);
    x.know(2, 0, 2, 1);
    x.know(3, 0, 2, 1);
    x.teach(0, 3, 0);
    x.holds(3, true);
    x.speaker(0);
    x.summers(1);
    has(x, 0, 0, 1, 8, -1);
    has(x, 1, 0, 1, 9, -1);
    has(x, 2, 0, 1, 4, 100);
    has(x, 3, 0, 2, 4, -1);
    CHECK.due("unlike wordings", x.lineOf(0, 5), 2);
  }

  private static void listeners() {
    LawRock x = rock(1);
    int[] born = {0, -8, -9, -37, -38};
    for (int i = 0; i < born.length; i++) {
      x.person(0, 1, born[i]);
    }
    x.line(0, false);
    x.know(0, 0, 2, 9);
    x.holds(1, true);
    x.away(1);
    x.summers(3);
    CHECK.due("9 years at summer 0", x.has(3, 0, 1), 0);
    x.know(0, 0, 2, 9);
    x.summers(1);
    has(x, 1, 0, -1, 0, -1);
    has(x, 2, 0, -1, 0, -1);
    has(x, 3, 0, 2, 3, 100);
    CHECK.due("40 years at summer 3, and 37 at summer 0", x.has(4, 0, 1), 4);
    CHECK.due("41 years at summer 3, but 38 at summer 0", x.has(5, 0, 1), 4);
    LawRock y = rock(1);
    y.person(0, 0, -40);
    y.person(0, 0, -41);
    y.line(0, false);
    y.know(0, 0, 2, 9);
    y.summers(1);
    CHECK.due("40 years", y.has(1, 0, 1), 3);
    CHECK.due("41 years", y.has(2, 0, 1), 0);
  }

  private static void fading() {
    LawRock x = rock(2);
    x.line(1, false);
    x.line(2, false);
    x.know(0, 0, 0, 9);
    x.know(0, 1, 0, 2);
    x.know(1, 1, 0, 3);
    x.teach(0, 1, 0);
    x.away(0);
    x.summers(1);
    has(x, 0, 0, 0, 8, -1);
    has(x, 0, 1, 0, 1, -1);
    has(x, 1, 0, 0, 3, 0);
    x.away(0);
    x.away(1);
    x.summers(1);
    CHECK.due("who is away fades too", x.has(0, 0, 1), 7);
    CHECK.due("silent", x.said(0, 1), -1);
    has(x, 0, 1, -1, 0, -1);
    CHECK.due("how many lines it has", x.of(0, 5), 1);
    has(x, 1, 1, 0, 1, -1);
    x.dies(1);
    x.summers(2);
    has(x, 1, 1, 0, 1, -1);
    has(x, 0, 0, 0, 5, -1);
  }

  private static void verses() {
    LawRock x = rock(1);
    x.line(0, true);
    x.line(0, false);
    x.know(0, 0, 0, 5);
    x.know(0, 1, 0, 5);
    int[] verse = {5, 5, 4, 4, 4, 3};
    int[] plain = {4, 3, 2, 1, 0, 0};
    for (int t = 0; t < verse.length; t++) {
      x.away(0);
      x.summers(1);
      CHECK.due("a verse behind summer " + t, x.has(0, 0, 1), verse[t]);
      CHECK.due("no verse behind summer " + t, x.has(0, 1, 1), plain[t]);
    }
    LawRock y = rock(1);
    y.line(2, true);
    y.know(0, 0, 0, 2);
    y.summers(3);
    CHECK.due("a verse said in summer 2 does not fade", y.has(0, 0, 1), 5);
  }

  private static void absentOnes() {
    LawRock x = rock(3);
    x.line(0, false);
    x.know(0, 0, 0, 5);
    x.know(1, 0, 1, 5);
    x.know(2, 0, 1, 5);
    x.away(1);
    x.away(2);
    x.way(1);
    x.summers(1);
    CHECK.due("only the present count", x.said(0, 0), 0);
    has(x, 1, 0, 1, 5, -1);
    x.summers(3);
    CHECK.due("away is forgotten", x.said(0, 3), 1);
    x.dies(1);
    x.dies(2);
    x.know(0, 0, 3, 5);
    x.summers(3);
    CHECK.due("the dead do not count", x.said(0, 6), 3);
  }

  private static void outlawsAreNotHeard() {
    LawRock x = rock(3);
    x.line(0, false);
    x.know(0, 0, 1, 9);
    x.know(1, 0, 4, 9);
    x.know(2, 0, 4, 9);
    x.holds(0, true);
    x.holds(1, true);
    x.holds(2, true);
    x.speaker(1);
    x.summers(1);
    CHECK.due("said", x.said(0, 0), 4);
    CHECK.due("suit", x.suit(0, 1, 0, 0, 0, 0), 0);
    x.summers(1);
    CHECK.due("1 summer old", x.of(1, 4), 0);
    x.summers(1);
    CHECK.due("2 summers old", x.of(1, 4), 1);
    CHECK.due("not who brought it", x.of(0, 4), 0);
    x.dies(2);
    x.summers(1);
    CHECK.due("an outlaw's wording is not said, though it is the speaker", x.said(0, 3), 1);
    CHECK.due("and it gains nothing, nor fades, as the line was said", x.has(1, 0, 1), 7);
    CHECK.due("pay", x.pay(0), true);
    x.summers(3);
    CHECK.due("who paid is heard", x.said(0, 6), 4);
  }

  private static void speakersWay() {
    LawRock x = rock(4);
    x.line(0, false);
    x.line(0, false);
    x.know(0, 0, 3, 5);
    x.know(1, 0, 1, 5);
    x.know(2, 0, 1, 5);
    x.know(3, 0, 2, 5);
    x.know(1, 1, 4, 5);
    x.know(2, 1, 2, 5);
    x.speaker(0);
    x.summers(1);
    CHECK.due("the speaker's", x.said(0, 0), 3);
    CHECK.due("the speaker has it not: the least of several", x.said(1, 0), 2);
    LawRock y = rock(4);
    y.line(0, false);
    y.know(0, 0, 0, 5);
    y.know(1, 0, 1, 5);
    y.know(2, 0, 1, 5);
    y.summers(1);
    CHECK.due("nobody speaks: the most", y.said(0, 0), 1);
    y.know(0, 0, 0, 9);
    y.know(3, 0, 3, 9);
    y.speaker(0);
    y.away(0);
    y.know(2, 0, 3, 9);
    y.summers(3);
    CHECK.due("the speaker went for a summer only", y.said(0, 3), 0);
    y.know(1, 0, 2, 9);
    y.know(2, 0, 2, 9);
    y.away(0);
    y.summers(1);
    CHECK.due("it is not its section's summer", y.said(0, 4), -2);
    y.summers(2);
    y.dies(0);
    y.know(1, 0, 2, 9);
    y.know(2, 0, 2, 9);
    y.summers(3);
    CHECK.due("a dead speaker does not speak", y.said(0, 9), 2);
  }

  private static void mostsWay() {
    LawRock x = rock(6);
    x.way(1);
    x.line(0, false);
    x.know(0, 0, 0, 5);
    x.know(1, 0, 2, 5);
    x.know(2, 0, 2, 5);
    x.know(3, 0, 1, 5);
    x.know(4, 0, 1, 5);
    x.speaker(0);
    x.summers(1);
    CHECK.due("the speaker's is none of the most: the least", x.said(0, 0), 1);
    x.know(0, 0, 0, 5);
    x.know(1, 0, 2, 5);
    x.know(2, 0, 2, 5);
    x.know(5, 0, 0, 5);
    x.speaker(1);
    x.summers(3);
    CHECK.due("the speaker's, as one of them", x.said(0, 3), 2);
    x.know(0, 0, 0, 5);
    x.know(5, 0, 0, 5);
    x.know(3, 0, 0, 5);
    x.away(1);
    x.summers(1);
    x.summers(1);
    x.away(1);
    x.know(4, 0, 2, 5);
    x.know(2, 0, 3, 5);
    x.know(3, 0, 2, 5);
    x.summers(1);
    CHECK.due("a speaker who is away does not part them", x.said(0, 6), 0);
  }

  private static void quartersWay() {
    LawRock x = rock(4);
    x.person(0, 0, -30);
    x.person(0, 0, -30);
    x.person(1, 0, -30);
    x.way(2);
    x.line(0, false);
    int[] wordings = {1, 2, 3, 3, 1, 1, 1};
    for (int p = 0; p < wordings.length; p++) {
      x.know(p, 0, wordings[p], 5);
    }
    x.summers(1);
    CHECK.due("quarter 1 is for 1 as the least, two voices each for 1 and 3", x.said(0, 0), 1);
    for (int p = 0; p < wordings.length; p++) {
      x.know(p, 0, wordings[p], 5);
    }
    x.speaker(2);
    x.summers(3);
    CHECK.due("the speaker's of several", x.said(0, 3), 3);
    for (int p = 0; p < wordings.length; p++) {
      x.know(p, 0, wordings[p], 5);
    }
    x.speaker(1);
    x.know(6, 0, 2, 5);
    x.know(2, 0, 4, 5);
    x.summers(3);
    CHECK.due("one voice each: the speaker's", x.said(0, 6), 2);
    x.know(0, 0, 4, 5);
    x.know(1, 0, 3, 5);
    x.know(2, 0, 4, 5);
    x.know(3, 0, 4, 5);
    x.know(4, 0, 2, 5);
    x.know(5, 0, 2, 5);
    x.know(6, 0, 3, 5);
    x.summers(3);
    CHECK.due("two voices beat the most heads and the speaker", x.said(0, 9), 4);
  }

  private static void silence() {
    LawRock x = rock(2);
    x.line(0, true);
    x.summers(4);
    CHECK.due("silent twice", x.lineOf(0, 2), 2);
    CHECK.due("said(0, 0)", x.said(0, 0), -1);
    x.know(0, 0, 2, 3);
    x.summers(3);
    CHECK.due("said", x.said(0, 6), 2);
    CHECK.due("silent no more", x.lineOf(0, 2), 0);
    x.dies(0);
    x.dies(1);
    x.summers(8);
    CHECK.due("silent twice again", x.lineOf(0, 2), 2);
    CHECK.due("not dead", x.lineOf(0, 3), -1);
    CHECK.due("look(4)", x.look(4), 0);
    x.summers(1);
    CHECK.due("third time", x.lineOf(0, 2), 3);
    CHECK.due("dead", x.lineOf(0, 3), 15);
    CHECK.due("look(4) then", x.look(4), 1);
    CHECK.due("silent as it died", x.said(0, 15), -1);
    x.person(0, 0, -10);
    CHECK.due("a dead line may be known", x.know(2, 0, 1, 9), true);
    x.summers(6);
    CHECK.due("dead ahead", x.said(0, 18), -2);
    CHECK.due("dead stays dead", x.lineOf(0, 3), 15);
    CHECK.due("a dead line fades too", x.has(2, 0, 1), 7);
    CHECK.due("how often silent stays", x.lineOf(0, 2), 3);
    CHECK.due("how often said stays", x.lineOf(0, 6), 1);
  }

  private static void lateLine() {
    LawRock x = rock(1);
    x.summers(4);
    x.line(0, false);
    x.know(0, 0, 0, 9);
    x.summers(3);
    CHECK.due("not there yet", x.said(0, 3), -2);
    CHECK.due("said as it came", x.said(0, 6), 0);
    CHECK.due("stood before", x.stood(0, 5), -1);
    CHECK.due("stood then", x.stood(0, 6), 0);
  }

  private static void lastSummer() {
    LawRock x = rock(1);
    x.line(0, true);
    x.know(0, 0, 2, 9);
    for (int n = 20; n <= 180; n += 20) {
      x.summers(20);
    }
    x.summers(16);
    x.know(0, 0, 3, 9);
    x.summers(3);
    CHECK.due("said in the last summer but one", x.said(0, 198), 3);
    CHECK.due("stood then", x.stood(0, 198), 3);
    CHECK.due("stood before", x.stood(0, 197), 2);
    CHECK.due("said at NOW", x.said(0, 199), -2);
    CHECK.due("how often", x.lineOf(0, 6), 67);
  }

  private static void lawAsItWas() {
    LawRock x = rock(1);
    x.line(1, true);
    x.know(0, 0, 3, 9);
    x.summers(2);
    x.know(0, 0, 4, 9);
    x.summers(3);
    x.dies(0);
    x.summers(9);
    int[] due = {-1, 3, 3, 3, 4, 4, 4, 4, 4, 4, 4, 4, 4, -1};
    for (int k = 0; k < due.length; k++) {
      CHECK.due("stood(0, " + k + ")", x.stood(0, k), due[k]);
    }
    CHECK.due("died", x.lineOf(0, 3), 13);
    CHECK.due("stood at NOW", x.stood(0, 14), -1);
    CHECK.due("stood(0, -1)", x.stood(0, -1), -1);
    CHECK.due("stood(1, 1)", x.stood(1, 1), -1);
    CHECK.due("stood(-1, 1)", x.stood(-1, 1), -1);
  }
}
