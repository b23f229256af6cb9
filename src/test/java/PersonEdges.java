/** The edges of promises 1 to 12: a new object, persons, families, the speaker, the way, the tape. */
final class PersonEdges {
  private static final int[] NOBODY = {-1, -2, 2, 23, 24, 100, Integer.MIN_VALUE, Integer.MAX_VALUE};
  private static final int BLANKS = 0x20202020;

  private PersonEdges() {
  }

  static void test(Sentences s) {
    s.in("Promise 1");
    s.test("Nobody, no LINES, SUMMER 0.", PersonEdges::newObject);
    s.in("Promise 2");
    s.test("A PERSON: the number;", PersonEdges::person);
    s.test("NONE if one can't be,", PersonEdges::noPerson);
    s.test("or there are 24.", PersonEdges::fullPersons);
    s.in("Promise 3");
    s.test("p DIES: true;", PersonEdges::dies);
    s.test("false if there is none such, or it did.", PersonEdges::diesNot);
    s.in("Promise 4");
    s.test("A FAMILY HOLDS, or not: true;", PersonEdges::holds);
    s.test("false if there is none such.", PersonEdges::holdsNot);
    s.in("Promise 5");
    s.test("p is AWAY NOW: true;", PersonEdges::away);
    s.test("false if there is none such that lives, or it is.", PersonEdges::awayNot);
    s.in("Promise 6");
    s.test("THE SPEAKER (one that lives; NONE: nobody, as at first): true;", PersonEdges::speaker);
    s.test("false if one can't be.", PersonEdges::speakerNot);
    s.in("Promise 7");
    s.test("THE WAY (0 .. 2) by which a WORDING STANDS: true;", PersonEdges::way);
    s.test("false if it can't be.", PersonEdges::wayNot);
    s.in("Promise 8");
    s.test("Of p what 0 QUARTER, 1 FAMILY, 2 BORN,", PersonEdges::of);
    s.test("3 when it DIED (NONE),", PersonEdges::ofDeath);
    s.test("4 1 if it is an OUTLAW, else 0,", PersonEdges::ofOutlaws);
    s.test("5 how many LINES it HAS,", PersonEdges::ofLines);
    s.test("6 1 if it is AWAY.", PersonEdges::ofAway);
    s.test("NONE - 99 if there is none such, or another what.", PersonEdges::ofNobody);
    s.in("Promise 9");
    s.test("Twenty bytes come behind the TAPE, of each number the highest first: how many it has.", PersonEdges::feed);
    s.test("NONE, and nothing comes, if there would be more than 400.", PersonEdges::fullTape);
    s.in("Promise 10");
    s.test("The TAPE has its first n bytes alone: true;", PersonEdges::end);
    s.test("false, changing nothing, if it has not so many, or n is below 0.", PersonEdges::endNot);
    s.in("Promise 11");
    s.test("The TAPE, empty then, is one more WORDING: its number.", PersonEdges::wording);
    s.test("NONE: there are 32 (fault() tells 0),", PersonEdges::fullWordings);
    s.test("or a FAULT.", PersonEdges::faultyWording);
    s.in("Promise 12");
    s.test("Of the latest wording(): what 0 the FAULT (0 without one),", PersonEdges::fault);
    s.test("1 its place (NONE).", PersonEdges::faultPlace);
    s.test("NONE for another what.", PersonEdges::faultOfNothing);
  }

  private static void newObject(Check c) {
    LawRock x = new LawRock();
    int[] due = {0, 0, 0, 0, 0, 0, 0, -1, 0, 0, 0};
    for (int what = 0; what < due.length; what++) {
      c.due("look(" + what + ")", x.look(what), due[what]);
    }
    c.due("of(0, 0)", x.of(0, 0), -100);
    c.due("has(0, 0, 1)", x.has(0, 0, 1), -1);
    c.due("lineOf(0, 2)", x.lineOf(0, 2), -1);
    c.due("said(0, 0)", x.said(0, 0), -2);
    c.due("suitOf(0, 3)", x.suitOf(0, 3), -1);
    c.due("far(0, 0)", x.far(0, 0), -1);
    c.due("loss(0)", x.loss(0), -1);
    c.due("wrong()", x.wrong(), 0);
    c.due("fault(0)", x.fault(0), 0);
    c.due("fault(1)", x.fault(1), -1);
    c.due("the TAPE is empty", x.end(1), false);
    x.person(0, 0, 0);
    c.due("a second object is its own", new LawRock().look(1), 0);
  }

  private static void person(Check c) {
    LawRock x = new LawRock();
    c.due("the first", x.person(3, 7, -90), 0);
    c.due("the second, the same again", x.person(3, 7, -90), 1);
    x.dies(1);
    c.due("the number of a dead one is not given again", x.person(0, 0, 0), 2);
    x.person(4, 0, 0);
    c.due("nor is one lost by a refused call", x.person(0, 0, 0), 3);
  }

  private static void noPerson(Check c) {
    LawRock x = Scene.rockWithLine(2);
    String before = Scene.all(x);
    int[][] bad = {{-1, 0, 0}, {4, 0, 0}, {0, -1, 0}, {0, 8, 0}, {0, 0, -91}, {0, 0, 1}, {Integer.MIN_VALUE, 0, 0},
        {0, Integer.MAX_VALUE, 0}, {0, 0, Integer.MIN_VALUE}, {0, 0, Integer.MAX_VALUE}};
    for (int[] one : bad) {
      c.due("person " + one[0] + " " + one[1] + " " + one[2], x.person(one[0], one[1], one[2]), -1);
    }
    c.due("nothing is done", Scene.all(x).equals(before), true);
  }

  private static void fullPersons(Check c) {
    LawRock x = new LawRock();
    for (int p = 0; p < 24; p++) {
      c.due("person", x.person(0, 0, 0), p);
    }
    c.due("the 25th", x.person(0, 0, 0), -1);
    for (int p = 0; p < 24; p++) {
      x.dies(p);
    }
    c.due("the 25th though all died", x.person(0, 0, 0), -1);
    c.due("PERSONS", x.look(1), 24);
    c.due("that live", x.look(2), 0);
  }

  private static void dies(Check c) {
    LawRock x = Scene.rock(2);
    c.due("the last", x.dies(1), true);
    c.due("the first", x.dies(0), true);
    c.due("PERSONS", x.look(1), 2);
    c.due("that live", x.look(2), 0);
  }

  private static void diesNot(Check c) {
    LawRock x = Scene.rock(2);
    x.dies(1);
    x.summers(2);
    String before = Scene.all(x);
    c.due("it did", x.dies(1), false);
    for (int p : NOBODY) {
      c.due("dies(" + p + ")", x.dies(p), false);
    }
    c.due("nothing is done", Scene.all(x).equals(before), true);
  }

  private static void holds(Check c) {
    LawRock x = Scene.rockWithLine(3);
    Scene.know(x, 1, 2, 2);
    x.speaker(0);
    c.due("HOLDS", x.holds(1, true), true);
    c.due("HOLDS again", x.holds(1, true), true);
    c.due("not", x.holds(2, false), true);
    x.summers(1);
    c.due("who HOLDS", x.has(1, 0, 0), 2);
    c.due("who does not", x.has(2, 0, 0), 1);
    c.due("not any more", x.holds(1, false), true);
    x.summers(3);
    c.due("who HOLDS no more", x.has(1, 0, 0), 1);
    c.due("a FAMILY without PERSONS", x.holds(7, true), true);
  }

  private static void holdsNot(Check c) {
    LawRock x = Scene.rock(1);
    for (int family : new int[] {-1, 8, 100, Integer.MIN_VALUE, Integer.MAX_VALUE}) {
      c.due("holds(" + family + ", true)", x.holds(family, true), false);
      c.due("holds(" + family + ", false)", x.holds(family, false), false);
    }
  }

  private static void away(Check c) {
    LawRock x = Scene.rock(2);
    c.due("the first", x.away(0), true);
    c.due("AWAY", x.of(0, 6), 1);
    c.due("the other is not", x.of(1, 6), 0);
    c.due("the last", x.away(1), true);
    x.summers(1);
    c.due("in another SUMMER", x.away(0), true);
  }

  private static void awayNot(Check c) {
    LawRock x = Scene.rock(2);
    x.away(0);
    x.dies(1);
    String before = Scene.all(x);
    c.due("it is", x.away(0), false);
    c.due("a dead one", x.away(1), false);
    for (int p : NOBODY) {
      c.due("away(" + p + ")", x.away(p), false);
    }
    c.due("nothing is done", Scene.all(x).equals(before), true);
  }

  private static void speaker(Check c) {
    LawRock x = Scene.rock(2);
    c.due("nobody at first", x.look(7), -1);
    c.due("the first", x.speaker(0), true);
    c.due("look(7)", x.look(7), 0);
    c.due("the same again", x.speaker(0), true);
    c.due("the last", x.speaker(1), true);
    c.due("look(7)", x.look(7), 1);
    c.due("nobody", x.speaker(LawRock.NONE), true);
    c.due("look(7)", x.look(7), -1);
    c.due("nobody again", x.speaker(LawRock.NONE), true);
  }

  private static void speakerNot(Check c) {
    LawRock x = Scene.rock(3);
    x.speaker(1);
    x.dies(2);
    c.due("a dead one", x.speaker(2), false);
    for (int p : new int[] {-2, 3, 24, Integer.MIN_VALUE, Integer.MAX_VALUE}) {
      c.due("speaker(" + p + ")", x.speaker(p), false);
    }
    c.due("look(7)", x.look(7), 1);
  }

  private static void way(Check c) {
    LawRock x = Scene.rockWithLine(0);
    for (int p = 0; p < 5; p++) {
      x.person(p == 4 ? 2 : p / 3, 0, -30);
    }
    for (int v = 0; v <= 2; v++) {
      c.due("way(" + v + ")", x.way(v), true);
      c.due("look(8)", x.look(8), v);
      Scene.know(x, 2, 2, 2, 3, 3);
      x.know(1, 0, 4, 9);
      x.speaker(1);
      x.know(0, 0, 2, 9);
      x.summers(3);
    }
    c.due("WAY 0: THE SPEAKER's", x.said(0, 0), 4);
    c.due("WAY 1: of two as many the least", x.said(0, 3), 2);
    c.due("WAY 2: two QUARTERS' voices", x.said(0, 6), 3);
  }

  private static void wayNot(Check c) {
    LawRock x = new LawRock();
    x.way(1);
    for (int v : new int[] {-1, 3, Integer.MIN_VALUE, Integer.MAX_VALUE}) {
      c.due("way(" + v + ")", x.way(v), false);
    }
    c.due("look(8)", x.look(8), 1);
  }

  private static void of(Check c) {
    LawRock x = new LawRock();
    x.person(0, 7, -90);
    x.person(3, 0, 0);
    int[][] due = {{0, 7, -90}, {3, 0, 0}};
    for (int p = 0; p < 2; p++) {
      for (int what = 0; what < 3; what++) {
        c.due("of(" + p + ", " + what + ")", x.of(p, what), due[p][what]);
      }
    }
    x.dies(0);
    c.due("of a dead one", x.of(0, 2), -90);
  }

  private static void ofDeath(Check c) {
    LawRock x = Scene.rock(2);
    x.dies(0);
    Scene.pass(x, 199);
    c.due("in 0", x.of(0, 3), 0);
    c.due("not yet", x.of(1, 3), -1);
    x.dies(1);
    c.due("in 199", x.of(1, 3), 199);
  }

  private static void ofOutlaws(Check c) {
    LawRock x = Scene.court("marks 1;");
    x.suit(0, 1, 0, 0, 0, 0);
    x.summers(1);
    c.due("1 SUMMER", x.of(1, 4), 0);
    x.summers(1);
    c.due("2 SUMMERS", x.of(1, 4), 1);
    c.due("the other one", x.of(0, 4), 0);
  }

  private static void ofLines(Check c) {
    LawRock x = Scene.rock(1);
    c.due("none", x.of(0, 5), 0);
    for (int l = 0; l < 24; l++) {
      x.line(0, false);
      x.know(0, l, 0, 1);
      c.due("so far", x.of(0, 5), l + 1);
    }
    x.know(0, 23, 1, 2);
    c.due("one told anew", x.of(0, 5), 24);
    x.away(0);
    x.summers(1);
    c.due("all but one faded", x.of(0, 5), 1);
  }

  private static void ofAway(Check c) {
    LawRock x = Scene.rock(1);
    c.due("not", x.of(0, 6), 0);
    x.away(0);
    c.due("AWAY", x.of(0, 6), 1);
  }

  private static void ofNobody(Check c) {
    LawRock x = Scene.rock(2);
    for (int p : NOBODY) {
      for (int what = 0; what <= 6; what++) {
        c.due("of(" + p + ", " + what + ")", x.of(p, what), -100);
      }
    }
    for (int what : new int[] {-1, 7, 10, -100, Integer.MIN_VALUE, Integer.MAX_VALUE}) {
      c.due("of(0, " + what + ")", x.of(0, what), -100);
      c.due("of(2, " + what + ")", x.of(2, what), -100);
    }
  }

  private static void feed(Check c) {
    LawRock x = new LawRock();
    c.due("the first twenty", x.feed(0x6d61726b, 0x73206861, 0x726d202b, 0x20313233, 0x34202d20), 20);
    c.due("twenty more", x.feed(0x77697473, 0x73206973, BLANKS, BLANKS, BLANKS), 40);
    c.due("cut to the first twenty", x.end(20), true);
    c.due("behind them", x.feed(0x31303030, 0x202a206b, 0x696e3b20, BLANKS, BLANKS), 40);
    c.due("cut behind the ;", x.end(31), true);
    c.due("marks harm + 1234 - 1000 * kin;", x.wording(), 0);
    x.line(0, false);
    x.book(0, 0);
    c.due("what it tells", x.byBook(0, 7, 0, 0, 1, 0), 241);
    LawRock y = new LawRock();
    y.feed(0x6d61726b, 0x7320313b, 0xff000000, 0, 0);
    y.end(9);
    y.wording();
    c.due("a byte of 255", y.fault(1), 8);
    y.feed(0x6d61726b, 0x732031ff, 0x3b000000, 0, 0);
    y.end(9);
    y.wording();
    c.due("a byte of 255 as the lowest", y.fault(1), 7);
    y.feed(-1, -1, -1, -1, -1);
    y.wording();
    c.due("all bytes of 255", y.fault(1), 0);
    y.feed(0x6d61726b, 0x73313131, 0x312b3132, 0x33342b39, 0x39393b00);
    y.end(19);
    c.due("all five numbers", y.wording(), 0);
    y.line(0, false);
    y.book(0, 0);
    c.due("marks1111+1234+999;", y.byBook(0, 0, 0, 0, 0, 0), 3344);
  }

  private static void fullTape(Check c) {
    LawRock x = new LawRock();
    Check.feed(x, "marks 1;");
    for (int n = 28; n <= 388; n += 20) {
      c.due("feed", x.feed(BLANKS, BLANKS, BLANKS, BLANKS, BLANKS), n);
    }
    c.due("408", x.feed(-1, -1, -1, -1, -1), -1);
    c.due("it has not so many", x.end(389), false);
    c.due("it has 388", x.end(388), true);
    c.due("381", x.end(381), true);
    c.due("401", x.feed(-1, -1, -1, -1, -1), -1);
    c.due("380", x.end(380), true);
    c.due("400", x.feed(BLANKS, BLANKS, BLANKS, BLANKS, BLANKS), 400);
    c.due("420", x.feed(-1, -1, -1, -1, -1), -1);
    c.due("it has 400", x.end(400), true);
    x.end(8);
    c.due("nothing came", x.wording(), 0);
    LawRock y = new LawRock();
    Check.feed(y, "marks " + "1+".repeat(196) + "1;");
    c.due("a text of 400", y.end(400), true);
    c.due("its WORDING", y.wording(), 0);
    y.line(0, false);
    y.book(0, 0);
    c.due("what it tells", y.byBook(0, 0, 0, 0, 0, 0), 197);
  }

  private static void end(Check c) {
    LawRock x = new LawRock();
    c.due("0 of the empty TAPE", x.end(0), true);
    Check.feed(x, "marks 12;");
    c.due("all", x.end(9), true);
    c.due("one less", x.end(8), true);
    c.due("not the former end any more", x.end(9), false);
    c.due("the text's end is gone", x.wording(), -1);
    c.due("at 8", x.fault(1), 8);
    Check.feed(x, "marks 12345;");
    x.end(10);
    x.wording();
    c.due("cut within digits: 1234 and the end", x.fault(1), 10);
    Check.feed(x, "marks 1 whenever;");
    x.end(12);
    x.wording();
    c.due("cut within letters: when and the end", x.fault(1), 12);
    Check.feed(x, "marks 12;");
    c.due("0", x.end(0), true);
    c.due("0 again", x.end(0), true);
    c.due("1 of none", x.end(1), false);
    c.due("feed anew", x.feed(0, 0, 0, 0, 0), 20);
  }

  private static void endNot(Check c) {
    LawRock x = new LawRock();
    Check.feed(x, "marks 12;");
    for (int n : new int[] {10, 20, 400, 401, -1, Integer.MIN_VALUE, Integer.MAX_VALUE}) {
      c.due("end(" + n + ")", x.end(n), false);
    }
    c.due("nothing is changed", x.wording(), 0);
  }

  private static void wording(Check c) {
    LawRock x = new LawRock();
    c.due("the first", Check.wording(x, "marks 1;"), 0);
    c.due("the TAPE is empty", x.end(1), false);
    c.due("feed begins anew", x.feed(0x6d61726b, 0x7320313b, BLANKS, BLANKS, BLANKS), 20);
    x.end(8);
    c.due("the same again is another one", x.wording(), 1);
    c.due("of the empty TAPE", x.wording(), -1);
    c.due("no number is lost by it", Check.wording(x, "marks 3;"), 2);
    c.due("WORDINGS", x.look(5), 3);
  }

  private static void fullWordings(Check c) {
    LawRock x = new LawRock();
    Scene.wordings(x, 31);
    Check.wording(x, "marks;");
    c.due("a FAULT ahead", x.fault(0), 1);
    c.due("the 32nd", Check.wording(x, "marks 1;"), 31);
    c.due("the 33rd", Check.wording(x, "marks 1;"), -1);
    c.due("fault(0)", x.fault(0), 0);
    c.due("fault(1)", x.fault(1), -1);
    c.due("the 33rd with a FAULT", Check.wording(x, "marks;"), -1);
    c.due("fault(0)", x.fault(0), 0);
    c.due("fault(1)", x.fault(1), -1);
    c.due("of the empty TAPE", x.wording(), -1);
    c.due("fault(0)", x.fault(0), 0);
    c.due("WORDINGS", x.look(5), 32);
  }

  private static void faultyWording(Check c) {
    LawRock x = new LawRock();
    c.due("of the empty TAPE", x.wording(), -1);
    c.due("FAULT 1", Check.wording(x, "marks 1"), -1);
    c.due("FAULT 2", Check.wording(x, "marks 1/0;"), -1);
    c.due("FAULT 3", Check.wording(x, "marks 1 when (((((((((1=1)))))))));"), -1);
    c.due("WORDINGS", x.look(5), 0);
    c.due("the TAPE is empty", x.end(1), false);
    c.due("one without", Check.wording(x, "marks 1;"), 0);
  }

  private static void fault(Check c) {
    LawRock x = new LawRock();
    c.due("without any wording()", x.fault(0), 0);
    Check.wording(x, "marks line 24;");
    c.due("2", x.fault(0), 2);
    c.due("asked again", x.fault(0), 2);
    Check.wording(x, "marks");
    c.due("1, the latest", x.fault(0), 1);
    Check.wording(x, "marks 1 when (((((((((1=1)))))))));");
    c.due("3, the latest", x.fault(0), 3);
    Check.wording(x, "marks 1;");
    c.due("0, the latest", x.fault(0), 0);
  }

  private static void faultPlace(Check c) {
    LawRock x = new LawRock();
    c.due("without any wording()", x.fault(1), -1);
    x.wording();
    c.due("of the empty TAPE", x.fault(1), 0);
    Check.wording(x, "   ");
    c.due("of blanks alone", x.fault(1), 3);
    x.wording();
    c.due("of the empty TAPE, where blanks were", x.fault(1), 0);
    Check.wording(x, "marks line 24;");
    c.due("of FAULT 2", x.fault(1), 11);
    Check.wording(x, "marks 1;");
    c.due("without a FAULT", x.fault(1), -1);
  }

  private static void faultOfNothing(Check c) {
    LawRock x = new LawRock();
    for (int i = 0; i < 2; i++) {
      for (int what : new int[] {-1, 2, 3, Integer.MIN_VALUE, Integer.MAX_VALUE}) {
        c.due("fault(" + what + ")", x.fault(what), -1);
      }
      Check.wording(x, "marks 1/0;");
    }
  }
}
