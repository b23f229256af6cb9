/** Small rocks to try an edge on, and all that can be asked of them. */
final class Scene {
  private Scene() {
  }

  /** As many wordings "marks 0;", "marks 1;", .. as told. */
  static void wordings(LawRock x, int count) {
    for (int i = 0; i < count; i++) {
      Check.wording(x, "marks " + i + ";");
    }
  }

  /** Five wordings, and as many persons of 30 years, p in quarter p modulo 4 and in family p modulo 8. */
  static LawRock rock(int persons) {
    LawRock x = new LawRock();
    wordings(x, 5);
    for (int p = 0; p < persons; p++) {
      x.person(p % 4, p % 8, -30);
    }
    return x;
  }

  /** The same with one line of section 0, no verse. */
  static LawRock rockWithLine(int persons) {
    LawRock x = rock(persons);
    x.line(0, false);
    return x;
  }

  /** The persons have line 0 in these wordings (-1: they do not), by a strength of 5. */
  static void know(LawRock x, int... wordings) {
    for (int p = 0; p < wordings.length; p++) {
      if (wordings[p] >= 0) {
        x.know(p, 0, wordings[p], 5);
      }
    }
  }

  /** Two persons and a line by which the second owes what is told for a deed of summer 0; it is summer 1. */
  static LawRock court(String text) {
    LawRock x = new LawRock();
    Check.wording(x, text);
    x.person(0, 0, -30);
    x.person(1, 1, -20);
    x.line(0, true);
    x.know(0, 0, 0, 9);
    x.summers(1);
    return x;
  }

  /** Lets summers go by in calls of 20 at most. */
  static void pass(LawRock x, int count) {
    for (int left = count; left > 0; left -= 20) {
      x.summers(Math.min(left, 20));
    }
  }

  /** What is owed by line l in the book, where line i stands in the i-th text. */
  static int byBook(int l, int harm, int age, String... texts) {
    LawRock x = new LawRock();
    for (int i = 0; i < texts.length; i++) {
      x.line(0, false);
      Check.wording(x, texts[i]);
      x.book(i, i);
    }
    return x.byBook(l, harm, 0, 0, 0, age);
  }

  /** All that can be asked of a small rock, to see that a refused call does nothing. */
  static String all(LawRock x) {
    StringBuilder all = new StringBuilder();
    for (int what = 0; what <= 10; what++) {
      all.append(x.look(what)).append(' ');
    }
    for (int p = 0; p < x.look(1); p++) {
      for (int what = 0; what <= 6; what++) {
        all.append(x.of(p, what)).append(' ');
      }
      for (int l = 0; l < x.look(3); l++) {
        all.append(x.has(p, l, 0)).append(' ').append(x.has(p, l, 1)).append(' ').append(x.has(p, l, 2)).append(' ');
      }
    }
    for (int l = 0; l < x.look(3); l++) {
      for (int what = 0; what <= 6; what++) {
        all.append(x.lineOf(l, what)).append(' ');
      }
      all.append(x.byBook(l, 1, 1, 1, 1, 1)).append(' ').append(x.stood(l, x.look(0) - 1)).append(' ');
    }
    for (int i = 0; i < x.look(6); i++) {
      all.append(x.suitOf(i, 3)).append(' ').append(x.suitOf(i, 5)).append(' ');
    }
    return all.append(x.wrong()).append(' ').append(x.fault(0)).append(' ').append(x.fault(1)).toString();
  }
}
