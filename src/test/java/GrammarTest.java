import java.util.ArrayList;
import java.util.HashMap;
import java.util.HashSet;
import java.util.List;
import java.util.Map;
import java.util.Set;

/**
 * Every text of a few tokens (one or two of each kind) up to its first fault, and long ones that are thrown, against the
 * grammar of the document held as mere rules: a token can stand where some derivation goes on with it, so that no way of
 * reading is taken for granted.
 */
public final class GrammarTest {
  private static final int TOKENS = 8;
  private static final int THROWN = 4000;
  private static final int TEXTS_AN_OBJECT = 30;
  private static final int CANT_STAND = 1;
  private static final int WRONG_NUMBER = 2;
  private static final int TOO_DEEP = 3;
  // "~" closes a not; PART is a number behind a /.
  private static final Map<String, String[]> RULES = new HashMap<>();

  static {
    RULES.put("TEXT", new String[] {"marks E WHEN UNLESS ;"});
    RULES.put("WHEN", new String[] {"", "when B"});
    RULES.put("UNLESS", new String[] {"", "unless B"});
    RULES.put("B", new String[] {"A OR"});
    RULES.put("OR", new String[] {"", "or A OR"});
    RULES.put("A", new String[] {"C AND"});
    RULES.put("AND", new String[] {"", "and C AND"});
    RULES.put("C", new String[] {"E SIGN E", "not C ~", "( B )"});
    RULES.put("SIGN", new String[] {"<", "=", ">"});
    RULES.put("E", new String[] {"T MORE"});
    RULES.put("MORE", new String[] {"", "+ T MORE", "- T MORE"});
    RULES.put("T", new String[] {"U TIMES"});
    RULES.put("TIMES", new String[] {"", "* U TIMES", "/ PART TIMES"});
    RULES.put("U", new String[] {"NUMBER", "harm", "witnesses", "years", "kin", "age", "line N"});
  }

  private static final String[] FEW = {"marks", "when", "unless", "or", "and", "not", "harm", "line", ";", "+", "*", "/", "(", ")", "<",
      "0", "24", "mark", "12345", "!"};
  private static final String[] ALL = {"marks", "when", "unless", "or", "and", "not", "harm", "witnesses", "years", "kin", "age", "line",
      ";", "+", "-", "*", "/", "(", ")", "<", "=", ">", "0", "1", "00", "23", "24", "0023", "9999", "00000", "x", "Marks", "&", "\u00e9"};

  /** What must still come, the next symbol first; null at the end of a text. */
  private record Rest(String symbol, Rest next) {}

  private final Check check = new Check("GrammarTest");
  private LawRock x = new LawRock();
  private int texts = 0;

  public static void main(String[] args) {
    GrammarTest test = new GrammarTest();
    Set<Rest> begin = new HashSet<>();
    begin.add(new Rest("TEXT", null));
    test.tryAll(begin, "", 0);
    for (int seed = 0; seed < THROWN; seed++) {
      test.tryLong(begin, new Dice(seed));
    }
    test.check.close();
  }

  /** All texts of some more tokens behind a text that is without fault so far. */
  private void tryAll(Set<Rest> rests, String text, int tokens) {
    tryEnd(rests, text);
    for (String token : FEW) {
      String longer = tokens == 0 ? token : text + " " + token;
      int place = longer.length() - token.length();
      Set<Rest> after = new HashSet<>();
      int fault = read(open(rests), token, after);
      if (fault != 0) {
        tell(longer, fault, place);
      } else if (tokens + 1 < TOKENS) {
        tryAll(after, longer, tokens + 1);
      } else {
        tryEnd(after, longer);
      }
    }
  }

  /** A long text by thrown tokens that can stand there, as deep as the dice will have it, with one that can't at its end. */
  private void tryLong(Set<Rest> begin, Dice dice) {
    Set<Rest> rests = begin;
    StringBuilder text = new StringBuilder();
    int style = dice.below(20);
    for (int i = 0; i < 150 && text.length() < 380; i++) {
      text.append(" \n ".substring(dice.below(2), 2));
      String token = dice.oneIn(60) ? ALL[dice.below(ALL.length)] : likely(open(rests), dice, style);
      int place = text.length();
      text.append(token);
      Set<Rest> after = new HashSet<>();
      int fault = read(open(rests), token, after);
      if (fault != 0) {
        tell(text.toString(), fault, place);
        return;
      }
      rests = after;
    }
    tryEnd(rests, text.toString());
  }

  /** A token that can stand there; of a higher style come more that open and fewer that close. */
  private static String likely(Set<Rest> open, Dice dice, int style) {
    for (int tries = 0; tries < 200; tries++) {
      String token = dice.below(30) < style ? dice.oneIn(2) ? "(" : "not" : ALL[dice.below(ALL.length)];
      boolean closes = token.equals(";") || token.equals(")");
      if (closes && !dice.oneIn(1 + style)) {
        continue;
      }
      int fault = read(open, token, new HashSet<>());
      if (fault == 0 || fault == TOO_DEEP && dice.oneIn(3)) {
        return token;
      }
    }
    return ";";
  }

  private void tryEnd(Set<Rest> rests, String text) {
    boolean whole = open(rests).contains(null);
    tell(text, whole ? 0 : CANT_STAND, whole ? LawRock.NONE : text.length());
  }

  private void tell(String text, int fault, int place) {
    if (texts++ % TEXTS_AN_OBJECT == 0) {
      x = new LawRock();
    }
    int before = x.look(5);
    String call = "wording '" + text + "'";
    check.due(call, Check.wording(x, text), fault == 0 ? before : LawRock.NONE);
    check.due(call + " fault(0)", x.fault(0), fault);
    check.due(call + " fault(1)", x.fault(1), place);
  }

  /** All that can come next, with a token in front, or null where nothing need come any more. */
  private static Set<Rest> open(Set<Rest> rests) {
    Set<Rest> open = new HashSet<>();
    List<Rest> todo = new ArrayList<>(rests);
    while (!todo.isEmpty()) {
      Rest one = todo.remove(todo.size() - 1);
      if (one != null && one.symbol.equals("~")) {
        todo.add(one.next);
      } else if (one == null || !RULES.containsKey(one.symbol)) {
        open.add(one);
      } else {
        for (String side : RULES.get(one.symbol)) {
          todo.add(ahead(side, one.next));
        }
      }
    }
    return open;
  }

  private static Rest ahead(String side, Rest next) {
    Rest rest = next;
    String[] symbols = side.isEmpty() ? new String[0] : side.split(" ");
    for (int i = symbols.length - 1; i >= 0; i--) {
      rest = new Rest(symbols[i], rest);
    }
    return rest;
  }

  /** Puts what can come behind the token into a set, and tells the fault at the token, 0 for none. */
  private static int read(Set<Rest> open, String token, Set<Rest> after) {
    int least = CANT_STAND;
    for (Rest one : open) {
      int fault = one == null ? CANT_STAND : match(one, token);
      if (fault == 0) {
        after.add(one.next);
      } else if (fault != CANT_STAND) {
        least = fault;
      }
    }
    return after.isEmpty() ? least : 0;
  }

  private static int match(Rest one, String token) {
    boolean number = token.matches("[0-9]{1,4}");
    switch (one.symbol) {
      case "NUMBER": return number ? 0 : CANT_STAND;
      case "PART": return !number ? CANT_STAND : Integer.parseInt(token) == 0 ? WRONG_NUMBER : 0;
      case "N": return !number ? CANT_STAND : Integer.parseInt(token) > 23 ? WRONG_NUMBER : 0;
      case "(": case "not": return !token.equals(one.symbol) ? CANT_STAND : opened(one.next) > 8 ? TOO_DEEP : 0;
      default: return token.equals(one.symbol) ? 0 : CANT_STAND;
    }
  }

  /** How many brackets and nots are still to be closed. */
  private static int opened(Rest rest) {
    int count = 0;
    for (Rest one = rest; one != null; one = one.next) {
      count += one.symbol.equals(")") || one.symbol.equals("~") ? 1 : 0;
    }
    return count;
  }
}
