/** Promises 21 to 25, 30 and 31 and parts 3 and 5 of the document: what is owed, suits, the book. */
public final class LawTest {
  private static final Check CHECK = new Check("LawTest");

  public static void main(String[] args) {
    reckoning();
    conditions();
    bounds();
    otherLines();
    owedAsItWas();
    wrongFacts();
    theBook();
    wrongLines();
    suits();
    factsOfSuits();
    wrongSuits();
    mostSuits();
    parts();
    partsStay();
    payment();
    CHECK.close();
  }

  /** What a wording tells for the facts: harm 7, witnesses 3, years 20, kin 1, age -5. */
  private static void tells(String text, int due) {
    LawRock x = new LawRock();
    x.line(0, false);
    CHECK.due("wording '" + text + "'", Check.wording(x, text), 0);
    x.book(0, 0);
    CHECK.due("'" + text + "'", x.byBook(0, 7, 3, 20, 1, -5), due);
  }

  private static void reckoning() {
    tells("marks 12;", 12);
    tells("marks harm;", 7);
    tells("marks witnesses;", 3);
    tells("marks years;", 20);
    tells("marks kin;", 1);
    tells("marks age + 9;", 4);
    tells("marks 1 + 2 * 3;", 7);
    tells("marks 2 * 3 + 1;", 7);
    tells("marks 10 - 3 - 2;", 5);
    tells("marks 10 - 3 + 2;", 9);
    tells("marks 10 - 2 * 3 + 1;", 5);
    tells("marks 7 * 3 / 2;", 10);
    tells("marks 7 / 2 * 3;", 9);
    tells("marks 100 / 7 / 2;", 7);
    tells("marks 1 + 9 / 2 - 2 * 2 / 3;", 4);
    tells("marks 10 + age / 2;", 8);
    tells("marks 0010 + 9;", 19);
    tells("marks 9999 * 9999 * 9999;", 0);
    tells("marks 9999 * 9999 * 9999 / 9999 + 9999 * 10 + 2760;", 5);
    tells("marks 256 * 256 * 256 * 256 + 3;", 3);
  }

  private static void conditions() {
    tells("marks 5 when harm = 7;", 5);
    tells("marks 5 when harm < 7;", 0);
    tells("marks 5 when harm < 8;", 5);
    tells("marks 5 when harm > 7;", 0);
    tells("marks 5 when harm > 6;", 5);
    tells("marks 5 when not harm = 7;", 0);
    tells("marks 5 when not not harm = 7;", 5);
    tells("marks 5 unless harm = 7;", 0);
    tells("marks 5 unless harm = 6;", 5);
    tells("marks 5 when kin = 1 unless harm = 6;", 5);
    tells("marks 5 when kin = 0 unless harm = 6;", 0);
    tells("marks 5 when kin = 1 unless harm = 7;", 0);
    tells("marks 5 when kin = 0 unless harm = 7;", 0);
    tells("marks 5 when 1 = 1 or 1 = 1 and 1 = 2;", 5);
    tells("marks 5 when (1 = 1 or 1 = 1) and 1 = 2;", 0);
    tells("marks 5 when 1 = 2 and 1 = 1 or 1 = 1;", 5);
    tells("marks 5 when 1 = 2 and (1 = 1 or 1 = 1);", 0);
    tells("marks 5 when 1 = 2 or 1 = 2 or 1 = 1;", 5);
    tells("marks 5 when 1 = 1 and 1 = 1 and 1 = 2;", 0);
    tells("marks 5 when not 1 = 2 and 1 = 2;", 0);
    tells("marks 5 when not (1 = 2 and 1 = 2);", 5);
    tells("marks 5 when not 1 = 1 or 1 = 1;", 5);
    tells("marks 5 when 2 + 2 * 2 > 5 and 6 = 2 + 4;", 5);
    tells("marks 5 when 1 - 2 < 0;", 5);
    tells("marks 5 when (1=1 or (1=2 and (1=1 or (1=2 and (1=1 or (1=2 and (1=1 or (1=2 and 3 - 1 = 2))))))));", 5);
  }

  private static void bounds() {
    tells("marks 0;", 0);
    tells("marks 1 - 2;", 0);
    tells("marks 9999;", 9999);
    tells("marks 9999 + 1;", 9999);
    tells("marks 9999 * 9999;", 9999);
  }

  private static LawRock linesInBook(String... texts) {
    LawRock x = new LawRock();
    for (int l = 0; l < texts.length; l++) {
      x.line(0, false);
      Check.wording(x, texts[l]);
      x.book(l, l);
    }
    return x;
  }

  private static void otherLines() {
    LawRock x = linesInBook("marks harm;", "marks line 0 * 2 when witnesses > 0;", "marks line 1 + line 0 - line 2 + line 3;",
        "marks line 2 * 9999;", "marks line 3 + 1;", "marks 8 when line 1 = 0;", "marks line 23 + 4;");
    int[] due = {7, 14, 21, 9999, 9999, 0, 4};
    for (int l = 0; l < due.length; l++) {
      CHECK.due("byBook(" + l + ")", x.byBook(l, 7, 3, 0, 0, 0), due[l]);
    }
    CHECK.due("a condition by another line", x.byBook(5, 7, 0, 0, 0, 0), 8);
    x.book(0, -1);
    CHECK.due("a line that is not in it", x.byBook(2, 7, 3, 0, 0, 0), 0);
    x.book(0, 6);
    CHECK.due("a line in another's wording: of line 23 nothing", x.byBook(1, 7, 3, 0, 0, 0), 8);
  }

  private static void owedAsItWas() {
    LawRock x = new LawRock();
    x.person(0, 0, -30);
    x.line(0, false);
    x.line(1, false);
    Check.wording(x, "marks harm;");
    Check.wording(x, "marks line 0 * 10 + years + kin * 2 + age + witnesses * 100;");
    Check.wording(x, "marks harm * 3;");
    x.person(0, 0, -60);
    x.know(0, 0, 0, 9);
    x.know(1, 1, 1, 9);
    x.summers(3);
    x.know(0, 0, 2, 9);
    x.summers(1);
    CHECK.due("line 1 at 0", x.owed(1, 0, 5, 1, 3, 1, 20), 0);
    CHECK.due("line 1 at 1", x.owed(1, 1, 5, 1, 3, 1, 20), 175);
    CHECK.due("line 1 at 2", x.owed(1, 2, 5, 1, 3, 1, 20), 175);
    CHECK.due("line 1 at 3 by the new line 0", x.owed(1, 3, 5, 1, 3, 1, 20), 275);
    CHECK.due("line 0 at 2", x.owed(0, 2, 5, 1, 3, 1, 20), 5);
    CHECK.due("line 0 at 3", x.owed(0, 3, 5, 1, 3, 1, 20), 15);
    x.dies(0);
    x.summers(9);
    CHECK.due("line 0 died", x.lineOf(0, 3), 12);
    CHECK.due("line 1 at 11", x.owed(1, 11, 5, 1, 3, 1, 20), 275);
    CHECK.due("line 1 at 12 by a dead line 0", x.owed(1, 12, 5, 1, 3, 1, 20), 125);
    CHECK.due("dead line 0", x.owed(0, 12, 5, 1, 3, 1, 20), 0);
  }

  private static void wrongFacts() {
    LawRock x = linesInBook("marks 9;");
    x.summers(2);
    int[][] sound = {{0, 0, 0, 0, -99}, {99, 9, 299, 1, 299}};
    for (int[] f : sound) {
      CHECK.due("sound facts by the law", x.owed(0, 1, f[0], f[1], f[2], f[3], f[4]), 0);
      CHECK.due("sound facts by the book", x.byBook(0, f[0], f[1], f[2], f[3], f[4]), 9);
    }
    int[][] bad = {{-1, 0, 0, 0, 0}, {100, 0, 0, 0, 0}, {0, -1, 0, 0, 0}, {0, 10, 0, 0, 0}, {0, 0, -1, 0, 0}, {0, 0, 300, 0, 0},
        {0, 0, 0, -1, 0}, {0, 0, 0, 2, 0}, {0, 0, 0, 0, -100}, {0, 0, 0, 0, 300}};
    for (int[] f : bad) {
      CHECK.due("wrong facts by the law", x.owed(0, 1, f[0], f[1], f[2], f[3], f[4]), -1);
      CHECK.due("wrong facts by the book", x.byBook(0, f[0], f[1], f[2], f[3], f[4]), -1);
    }
    CHECK.due("owed at NOW", x.owed(0, 2, 0, 0, 0, 0, 0), -1);
    CHECK.due("owed at -1", x.owed(0, -1, 0, 0, 0, 0, 0), -1);
    CHECK.due("owed by line 1", x.owed(1, 1, 0, 0, 0, 0, 0), -1);
    CHECK.due("owed by line -1", x.owed(-1, 1, 0, 0, 0, 0, 0), -1);
    CHECK.due("byBook by line 1", x.byBook(1, 0, 0, 0, 0, 0), -1);
    CHECK.due("byBook by line -1", x.byBook(-1, 0, 0, 0, 0, 0), -1);
  }

  private static void theBook() {
    LawRock x = new LawRock();
    CHECK.due("book without a line", x.book(0, -1), false);
    x.line(0, false);
    Check.wording(x, "marks 1;");
    CHECK.due("byBook at first", x.byBook(0, 0, 0, 0, 0, 0), 0);
    CHECK.due("book(1, 0)", x.book(1, 0), false);
    CHECK.due("book(-1, 0)", x.book(-1, 0), false);
    CHECK.due("book(0, 1)", x.book(0, 1), false);
    CHECK.due("book(0, -2)", x.book(0, -2), false);
    CHECK.due("look(10)", x.look(10), 0);
    CHECK.due("book(0, 0)", x.book(0, 0), true);
    CHECK.due("look(10) of one", x.look(10), 1);
    CHECK.due("a wrong call changes nothing", x.book(0, 5), false);
    CHECK.due("byBook", x.byBook(0, 0, 0, 0, 0, 0), 1);
    CHECK.due("book(0, NONE)", x.book(0, -1), true);
    CHECK.due("look(10) of none", x.look(10), 0);
    CHECK.due("byBook of none", x.byBook(0, 0, 0, 0, 0, 0), 0);
  }

  private static void wrongLines() {
    LawRock x = new LawRock();
    x.person(0, 0, -30);
    for (int l = 0; l < 4; l++) {
      x.line(l % 3, false);
      Check.wording(x, "marks " + l + ";");
      x.know(0, l, l, 9);
    }
    x.book(0, 0);
    x.book(1, 1);
    x.book(3, 2);
    CHECK.due("in summer 0 all that is written", x.wrong(), 11);
    x.summers(1);
    CHECK.due("line 0 was said so", x.wrong(), 10);
    x.summers(1);
    CHECK.due("line 1 was said so", x.wrong(), 8);
    x.book(3, 3);
    CHECK.due("line 3 was written anew", x.wrong(), 0);
    x.know(0, 0, 2, 9);
    x.summers(2);
    CHECK.due("line 0 was said otherwise", x.wrong(), 1);
    x.book(0, 2);
    CHECK.due("and written so", x.wrong(), 0);
    x.dies(0);
    x.summers(6);
    CHECK.due("silent lines are not wrong", x.wrong(), 0);
    x.summers(1);
    CHECK.due("a dead line is wrong", x.wrong(), 2);
    x.summers(2);
    CHECK.due("the others died too", x.wrong(), 11);
    x.book(0, -1);
    CHECK.due("what is not written is not wrong", x.wrong(), 10);
  }

  private static LawRock court() {
    LawRock x = new LawRock();
    x.person(0, 0, -30);
    x.person(1, 1, -20);
    x.person(2, 0, -10);
    x.person(3, 2, 0);
    x.line(0, false);
    Check.wording(x, "marks harm + witnesses * 100 + years * 1000 + kin * 5000;");
    Check.wording(x, "marks age;");
    x.know(0, 0, 0, 9);
    x.summers(1);
    return x;
  }

  private static void suits() {
    LawRock x = court();
    CHECK.due("suit", x.suit(0, 1, 0, 45, 6, 1), 0);
    int[] due = {0, 1, 0, 645, 1, 0};
    for (int what = 0; what < due.length; what++) {
      CHECK.due("suitOf(0, " + what + ")", x.suitOf(0, what), due[what]);
    }
    x.summers(2);
    CHECK.due("suit of kin for a deed 2 summers ago", x.suit(2, 0, 0, 1, 0, 1), 1);
    CHECK.due("owed", x.suitOf(1, 3), 7001);
    CHECK.due("its summer", x.suitOf(1, 4), 3);
    CHECK.due("suitOf(2, 0)", x.suitOf(2, 0), -1);
    CHECK.due("suitOf(-1, 0)", x.suitOf(-1, 0), -1);
    CHECK.due("suitOf(0, 6)", x.suitOf(0, 6), -1);
    CHECK.due("suitOf(0, 9)", x.suitOf(0, 9), -1);
    CHECK.due("suitOf(0, -1)", x.suitOf(0, -1), -1);
    CHECK.due("suitOf(0, 14)", x.suitOf(0, 14), -1);
    CHECK.due("look(6)", x.look(6), 2);
    LawRock y = new LawRock();
    y.person(0, 0, -1);
    y.person(0, 0, -1);
    y.line(0, false);
    Check.wording(y, "marks 5;");
    y.know(0, 0, 0, 9);
    y.book(0, 0);
    CHECK.due("a suit in summer 0", y.suit(0, 1, 0, 0, 0, 0), 0);
    CHECK.due("is for nothing", y.suitOf(0, 3), 0);
    y.summers(1);
    CHECK.due("what was owed stays", y.suitOf(0, 3), 0);
    CHECK.due("a suit by a line that was said", y.suit(0, 1, 0, 0, 0, 1), 1);
    CHECK.due("is for something", y.suitOf(1, 3), 5);
    CHECK.due("a suit back", y.suit(1, 0, 0, 0, 0, 0), 2);
  }

  private static void factsOfSuits() {
    LawRock x = court();
    x.know(0, 0, 1, 9);
    x.speaker(0);
    x.summers(3);
    CHECK.due("by age", x.suit(0, 1, 0, 0, 0, 2), 0);
    CHECK.due("the age of the one who did it, at the deed", x.suitOf(0, 3), 22);
    CHECK.due("by age, young", x.suit(1, 3, 0, 0, 0, 3), 1);
    CHECK.due("3 years", x.suitOf(1, 3), 3);
  }

  private static void wrongSuits() {
    LawRock x = court();
    CHECK.due("the same", x.suit(0, 0, 0, 0, 0, 1), -1);
    CHECK.due("no such p", x.suit(4, 0, 0, 0, 0, 1), -1);
    CHECK.due("no such q", x.suit(0, 4, 0, 0, 0, 1), -1);
    CHECK.due("p -1", x.suit(-1, 0, 0, 0, 0, 1), -1);
    CHECK.due("no such line", x.suit(0, 1, 1, 0, 0, 1), -1);
    CHECK.due("harm 100", x.suit(0, 1, 0, 100, 0, 1), -1);
    CHECK.due("harm -1", x.suit(0, 1, 0, -1, 0, 1), -1);
    CHECK.due("witnesses 10", x.suit(0, 1, 0, 0, 10, 1), -1);
    CHECK.due("witnesses -1", x.suit(0, 1, 0, 0, -1, 1), -1);
    CHECK.due("a deed to come", x.suit(0, 1, 0, 0, 0, 2), -1);
    CHECK.due("a deed in no summer", x.suit(0, 1, 0, 0, 0, -1), -1);
    x.summers(2);
    x.person(0, 5, 2);
    CHECK.due("p not born by then", x.suit(4, 1, 0, 0, 0, 1), -1);
    CHECK.due("q not born by then", x.suit(1, 4, 0, 0, 0, 1), -1);
    CHECK.due("born in that summer", x.suit(1, 4, 0, 0, 0, 2), 0);
    CHECK.due("p born in that summer", x.suit(4, 1, 0, 0, 0, 2), 1);
    x.dies(1);
    CHECK.due("p dead", x.suit(1, 0, 0, 0, 0, 1), -1);
    CHECK.due("q dead", x.suit(0, 1, 0, 0, 0, 1), -1);
    CHECK.due("look(6)", x.look(6), 2);
  }

  private static void mostSuits() {
    LawRock x = court();
    for (int i = 0; i < 100; i++) {
      CHECK.due("suit " + i, x.suit(0, 1, 0, i % 100, 0, 1), i);
    }
    CHECK.due("suit 100", x.suit(0, 1, 0, 0, 0, 1), -1);
    CHECK.due("look(6)", x.look(6), 100);
    CHECK.due("suitOf(99, 3)", x.suitOf(99, 3), 99);
  }

  private static void parted(int others, int marks, int own, int each) {
    LawRock x = new LawRock();
    x.person(0, 3, -30);
    x.person(0, 4, -30);
    x.person(0, 3, -30);
    x.dies(2);
    for (int i = 0; i < others; i++) {
      x.person(i % 4, 3, -5);
    }
    x.line(0, false);
    Check.wording(x, "marks " + marks + ";");
    x.know(1, 0, 0, 9);
    x.summers(1);
    x.suit(0, 1, 0, 0, 0, 0);
    String parts = marks + " among " + others + ": ";
    CHECK.due(parts + "its own", x.suitOf(0, 10), own);
    CHECK.due(parts + "the other side's", x.suitOf(0, 11), 0);
    CHECK.due(parts + "a dead one's", x.suitOf(0, 12), 0);
    for (int i = 0; i < others; i++) {
      CHECK.due(parts + "of " + i, x.suitOf(0, 13 + i), each);
    }
    CHECK.due(parts + "of one that is not there", x.suitOf(0, 13 + others), -1);
  }

  private static void parts() {
    parted(0, 9, 9, 0);
    parted(1, 9, 5, 4);
    parted(1, 8, 4, 4);
    parted(2, 9, 5, 2);
    parted(3, 9, 6, 1);
    parted(4, 1, 1, 0);
    parted(5, 8, 8, 0);
    parted(7, 9999, 5001, 714);
    parted(3, 0, 0, 0);
  }

  private static void partsStay() {
    LawRock x = court();
    x.summers(1);
    x.suit(0, 2, 0, 10, 0, 1);
    CHECK.due("kin against kin", x.suitOf(0, 3), 6010);
    CHECK.due("its own half", x.suitOf(0, 10), 3005);
    CHECK.due("the other side is of the family", x.suitOf(0, 12), 3005);
    x.dies(2);
    x.person(0, 0, 0);
    CHECK.due("parts stay as one dies", x.suitOf(0, 12), 3005);
    CHECK.due("and as one comes", x.suitOf(0, 14), 0);
    CHECK.due("its own half stays", x.suitOf(0, 10), 3005);
  }

  private static void payment() {
    LawRock x = court();
    x.suit(0, 1, 0, 1, 0, 1);
    x.suit(2, 1, 0, 1, 0, 1);
    x.suit(1, 3, 0, 0, 0, 1);
    CHECK.due("pay(-1)", x.pay(-1), false);
    CHECK.due("pay(3)", x.pay(3), false);
    x.summers(2);
    CHECK.due("an outlaw", x.of(1, 4), 1);
    CHECK.due("who owes nothing is none", x.of(3, 4), 0);
    CHECK.due("look(9)", x.look(9), 1);
    CHECK.due("pay(0)", x.pay(0), true);
    CHECK.due("suitOf(0, 5)", x.suitOf(0, 5), 1);
    CHECK.due("pay(0) again", x.pay(0), false);
    CHECK.due("another suit is open", x.of(1, 4), 1);
    CHECK.due("pay(1)", x.pay(1), true);
    CHECK.due("no outlaw any more", x.of(1, 4), 0);
    CHECK.due("pay of nothing", x.pay(2), true);
    x.suit(0, 1, 0, 1, 0, 1);
    x.dies(0);
    x.summers(2);
    CHECK.due("owing to a dead one", x.of(1, 4), 1);
    x.dies(1);
    CHECK.due("a dead one is no outlaw", x.of(1, 4), 0);
    CHECK.due("look(9) of the dead", x.look(9), 0);
  }
}
