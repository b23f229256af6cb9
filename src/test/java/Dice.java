/** Numbers that look thrown but are the same in every run, and texts made from them. */
final class Dice {
  private long state;

  Dice(long seed) {
    state = seed * 0x9E3779B97F4A7C15L + 1;
  }

  /** 0 .. n - 1. */
  int below(int n) {
    state = state * 6364136223846793005L + 1442695040888963407L;
    return (int) ((state >>> 33) % n);
  }

  int between(int least, int most) {
    return least + below(most - least + 1);
  }

  boolean oneIn(int n) {
    return below(n) == 0;
  }

  /** Mostly a number of 0 .. n - 1, at times one beside it or far off. */
  int near(int n) {
    if (!oneIn(25) && n > 0) {
      return below(n);
    }
    int[] odd = {-1, -2, n, n + 1, 23, 24, 31, 32, Integer.MIN_VALUE, Integer.MAX_VALUE, -100, 1000};
    return odd[below(odd.length)];
  }

  String text() {
    StringBuilder text = new StringBuilder("marks" + gap(true) + sum());
    if (oneIn(2)) {
      text.append(gap(true)).append("when").append(gap(true)).append(any(0));
    }
    if (oneIn(2)) {
      text.append(gap(true)).append("unless").append(gap(true)).append(any(0));
    }
    text.append(gap(false)).append(';');
    return text.toString();
  }

  /** A text with one sign put in, taken out or changed, or one cut off. */
  String spoiled(String text) {
    String signs = ";+-*/()<=>0123456789 \nabmnorw%A\u00e9";
    String sign = String.valueOf(signs.charAt(below(signs.length())));
    int at = below(text.length() + 1);
    int behind = Math.min(text.length(), at + below(3));
    switch (below(4)) {
      case 0: return text.substring(0, at);
      case 1: return text.substring(0, at) + sign + text.substring(at);
      case 2: return text.substring(0, at) + text.substring(behind);
      default: return text.substring(0, at) + sign + text.substring(Math.min(text.length(), at + 1));
    }
  }

  private String gap(boolean needed) {
    if (!needed && oneIn(2)) {
      return "";
    }
    return oneIn(8) ? "\n" : oneIn(8) ? "  " : " ";
  }

  private String any(int depth) {
    StringBuilder text = new StringBuilder(condition(depth));
    for (int i = 0; i < 3 && oneIn(3); i++) {
      text.append(gap(true)).append(oneIn(2) ? "or" : "and").append(gap(true)).append(condition(depth));
    }
    return text.toString();
  }

  private String condition(int depth) {
    if (depth < 10 && oneIn(depth == 0 ? 2 : 3)) {
      return oneIn(2) ? "not " + condition(depth + 1) : "(" + gap(false) + any(depth + 1) + gap(false) + ")";
    }
    return sum() + gap(false) + "<=>".charAt(below(3)) + gap(false) + sum();
  }

  private String sum() {
    StringBuilder text = new StringBuilder(unit());
    for (int i = 0; i < 6 && oneIn(2); i++) {
      char sign = "+-*/".charAt(below(4));
      text.append(gap(false)).append(sign).append(gap(false)).append(sign == '/' ? number(oneIn(20) ? 0 : 1, 12) : unit());
    }
    return text.toString();
  }

  private String unit() {
    switch (below(7)) {
      case 0: return "harm";
      case 1: return "witnesses";
      case 2: return "years";
      case 3: return oneIn(2) ? "kin" : "age";
      case 4: return "line " + number(0, oneIn(30) ? 40 : 5);
      default: return number(0, oneIn(8) ? 12000 : 30);
    }
  }

  private String number(int least, int most) {
    return (oneIn(6) ? "0" : "") + between(least, most);
  }
}
