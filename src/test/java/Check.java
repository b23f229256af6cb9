/** Counts the answers that are not the ones due, and puts texts on the tape. */
final class Check {
  private final String name;
  private int answers = 0;
  private int wrong = 0;
  private String about = "";

  Check(String name) {
    this.name = name;
  }

  void due(String call, long got, long want) {
    answers++;
    if (got != want) {
      wrong++;
      System.out.println(name + ": " + about + call + " answered " + got + ", due is " + want);
    }
  }

  /** What stands ahead of each call that is told as wrong. */
  void about(String text) {
    about = text;
  }

  int answers() {
    return answers;
  }

  void due(String call, boolean got, boolean want) {
    due(call, got ? 1L : 0L, want ? 1L : 0L);
  }

  /** Tells the count and ends the program, with 1 if an answer was wrong. */
  void close() {
    System.out.println(name + ": " + answers + " answers, " + wrong + " not as due");
    System.exit(wrong == 0 ? 0 : 1);
  }

  /** Puts a text behind the tape, which must be empty, and cuts the tape to its length. */
  static void feed(LawRock x, String text) {
    int[] n = numbersOf(text);
    for (int i = 0; i < n.length; i += 5) {
      x.feed(n[i], n[i + 1], n[i + 2], n[i + 3], n[i + 4]);
    }
    x.end(text.length());
  }

  /** The numbers that feed a text, five for each twenty bytes, filled up with blanks. */
  static int[] numbersOf(String text) {
    int[] numbers = new int[(text.length() + 19) / 20 * 5];
    for (int i = 0; i < numbers.length * 4; i++) {
      int sign = i < text.length() ? text.charAt(i) : ' ';
      numbers[i / 4] = numbers[i / 4] << 8 | sign & 255;
    }
    return numbers;
  }

  static int wording(LawRock x, String text) {
    feed(x, text);
    return x.wording();
  }

  /** A text as wording with the fault that is due, 0 for none. */
  void fault(String text, int kind, int place) {
    LawRock x = new LawRock();
    String call = "wording '" + text.replace('\n', '~') + "'";
    due(call, wording(x, text), kind == 0 ? 0 : LawRock.NONE);
    due(call + " fault(0)", x.fault(0), kind);
    due(call + " fault(1)", x.fault(1), place);
  }
}
