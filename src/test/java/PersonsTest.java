/** Promises 1 to 8 and 32: a new object, persons, families, the speaker, the way, look. */
public final class PersonsTest {
  private static final Check CHECK = new Check("PersonsTest");

  public static void main(String[] args) {
    newObject();
    persons();
    mostPersons();
    deaths();
    families();
    awayOnes();
    speakers();
    ways();
    ofPersons();
    looks();
    CHECK.close();
  }

  private static void newObject() {
    LawRock x = new LawRock();
    int[] due = {0, 0, 0, 0, 0, 0, 0, -1, 0, 0, 0};
    for (int what = 0; what < due.length; what++) {
      CHECK.due("new look(" + what + ")", x.look(what), due[what]);
    }
    CHECK.due("new fault(0)", x.fault(0), 0);
    CHECK.due("new fault(1)", x.fault(1), -1);
    CHECK.due("new end(0)", x.end(0), true);
    CHECK.due("new end(1)", x.end(1), false);
    CHECK.due("new wrong()", x.wrong(), 0);
    CHECK.due("NONE", LawRock.NONE, -1);
  }

  private static void persons() {
    LawRock x = new LawRock();
    CHECK.due("person quarter -1", x.person(-1, 0, 0), -1);
    CHECK.due("person quarter 4", x.person(4, 0, 0), -1);
    CHECK.due("person family -1", x.person(0, -1, 0), -1);
    CHECK.due("person family 8", x.person(0, 8, 0), -1);
    CHECK.due("person born -91", x.person(0, 0, -91), -1);
    CHECK.due("person born 1", x.person(0, 0, 1), -1);
    CHECK.due("person far off", x.person(Integer.MIN_VALUE, Integer.MAX_VALUE, Integer.MIN_VALUE), -1);
    CHECK.due("none came", x.look(1), 0);
    CHECK.due("person first", x.person(0, 0, -90), 0);
    CHECK.due("person second", x.person(3, 7, 0), 1);
    x.summers(5);
    CHECK.due("person born 6 at 5", x.person(0, 0, 6), -1);
    CHECK.due("person born 5 at 5", x.person(1, 2, 5), 2);
    CHECK.due("look(1)", x.look(1), 3);
  }

  private static void mostPersons() {
    LawRock x = new LawRock();
    for (int p = 0; p < 24; p++) {
      CHECK.due("person " + p, x.person(p % 4, p % 8, -p), p);
    }
    CHECK.due("person 24", x.person(0, 0, 0), -1);
    x.dies(3);
    CHECK.due("person 24 though one died", x.person(0, 0, 0), -1);
    CHECK.due("look(1) of 24", x.look(1), 24);
    CHECK.due("look(2) of 24", x.look(2), 23);
    CHECK.due("of(23, 2)", x.of(23, 2), -23);
  }

  private static void deaths() {
    LawRock x = new LawRock();
    x.person(0, 0, 0);
    x.person(0, 0, 0);
    CHECK.due("dies(-1)", x.dies(-1), false);
    CHECK.due("dies(2)", x.dies(2), false);
    x.summers(4);
    CHECK.due("dies(1)", x.dies(1), true);
    CHECK.due("dies(1) again", x.dies(1), false);
    x.summers(1);
    CHECK.due("dies(1) later", x.dies(1), false);
    CHECK.due("when it died", x.of(1, 3), 4);
    CHECK.due("the other lives", x.of(0, 3), -1);
    CHECK.due("look(2)", x.look(2), 1);
  }

  private static void families() {
    LawRock x = new LawRock();
    CHECK.due("holds(-1)", x.holds(-1, true), false);
    CHECK.due("holds(8)", x.holds(8, true), false);
    CHECK.due("holds(0)", x.holds(0, true), true);
    CHECK.due("holds(0) again", x.holds(0, true), true);
    CHECK.due("holds(7, false)", x.holds(7, false), true);
    Check.wording(x, "marks 1;");
    Check.wording(x, "marks 2;");
    x.line(0, false);
    for (int p = 0; p < 3; p++) {
      x.person(0, p, -30);
      x.know(p, 0, p == 0 ? 0 : 1, 2);
    }
    x.holds(2, true);
    x.holds(2, false);
    x.speaker(0);
    x.holds(0, false);
    x.holds(1, true);
    x.summers(1);
    CHECK.due("who holds keeps its wording", x.has(1, 0, 0), 1);
    CHECK.due("but gains strength", x.has(1, 0, 1), 5);
    CHECK.due("and keeps from whom", x.has(1, 0, 2), -1);
    CHECK.due("who holds no more takes the one that stands", x.has(2, 0, 0), 0);
    CHECK.due("from the rock", x.has(2, 0, 2), 100);
  }

  private static void awayOnes() {
    LawRock x = new LawRock();
    CHECK.due("away(0) of none", x.away(0), false);
    x.person(0, 0, 0);
    x.person(0, 0, 0);
    CHECK.due("away(-1)", x.away(-1), false);
    CHECK.due("away(2)", x.away(2), false);
    CHECK.due("away(0)", x.away(0), true);
    CHECK.due("away(0) again", x.away(0), false);
    CHECK.due("of(0, 6)", x.of(0, 6), 1);
    CHECK.due("of(1, 6)", x.of(1, 6), 0);
    x.summers(1);
    CHECK.due("away is forgotten", x.of(0, 6), 0);
    CHECK.due("away(0) anew", x.away(0), true);
    x.dies(1);
    CHECK.due("away of a dead one", x.away(1), false);
  }

  private static void speakers() {
    LawRock x = new LawRock();
    CHECK.due("speaker(0) of none", x.speaker(0), false);
    x.person(0, 0, 0);
    x.person(0, 0, 0);
    CHECK.due("speaker(1)", x.speaker(1), true);
    CHECK.due("look(7)", x.look(7), 1);
    CHECK.due("speaker(2)", x.speaker(2), false);
    CHECK.due("speaker(-2)", x.speaker(-2), false);
    CHECK.due("look(7) unchanged", x.look(7), 1);
    x.dies(0);
    CHECK.due("speaker of a dead one", x.speaker(0), false);
    CHECK.due("speaker(NONE)", x.speaker(-1), true);
    CHECK.due("look(7) nobody", x.look(7), -1);
  }

  private static void ways() {
    LawRock x = new LawRock();
    CHECK.due("way(-1)", x.way(-1), false);
    CHECK.due("way(3)", x.way(3), false);
    CHECK.due("look(8) at first", x.look(8), 0);
    for (int v = 2; v >= 0; v--) {
      CHECK.due("way(" + v + ")", x.way(v), true);
      CHECK.due("look(8)", x.look(8), v);
    }
  }

  private static void ofPersons() {
    LawRock x = new LawRock();
    x.person(3, 5, -17);
    x.line(0, false);
    x.line(1, false);
    Check.wording(x, "marks 1;");
    x.know(0, 1, 0, 1);
    int[] due = {3, 5, -17, -1, 0, 1, 0};
    for (int what = 0; what < due.length; what++) {
      CHECK.due("of(0, " + what + ")", x.of(0, what), due[what]);
    }
    CHECK.due("of(0, -1)", x.of(0, -1), -100);
    CHECK.due("of(0, 7)", x.of(0, 7), -100);
    CHECK.due("of(1, 0)", x.of(1, 0), -100);
    CHECK.due("of(-1, 0)", x.of(-1, 0), -100);
    x.know(0, 0, 0, 1);
    CHECK.due("of(0, 5) of two", x.of(0, 5), 2);
  }

  private static void looks() {
    LawRock x = new LawRock();
    x.person(0, 0, -20);
    x.person(1, 1, -20);
    x.person(2, 2, -20);
    x.dies(2);
    Check.wording(x, "marks 8;");
    x.line(0, false);
    x.line(1, false);
    x.know(0, 0, 0, 9);
    x.book(1, 0);
    x.speaker(1);
    x.way(2);
    x.summers(1);
    x.suit(0, 1, 0, 0, 0, 0);
    x.summers(7);
    int[] due = {8, 3, 2, 2, 1, 1, 1, 1, 2, 1, 1};
    for (int what = 0; what < due.length; what++) {
      CHECK.due("look(" + what + ")", x.look(what), due[what]);
    }
    CHECK.due("look(-1)", x.look(-1), -2);
    CHECK.due("look(11)", x.look(11), -2);
  }
}
