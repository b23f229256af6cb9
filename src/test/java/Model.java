import java.util.ArrayList;
import java.util.Arrays;
import java.util.HashSet;
import java.util.List;
import java.util.Set;
import java.util.TreeMap;
import java.util.regex.Matcher;
import java.util.regex.Pattern;

/** The document a second time, written with the whole Java library and without care for speed, to compare with. */
final class Model {
  static final int NONE = -1;

  record Has(int wording, int strength, int from) {}

  static final class Person {
    int quarter, family, born, died = NONE, taught = NONE;
    boolean away;
    final TreeMap<Integer, Has> has = new TreeMap<>();
  }

  static final class Line {
    int section, died = NONE, silent, times;
    boolean verse;
    final TreeMap<Integer, Integer> voices = new TreeMap<>();
    Integer book;
  }

  static final class Suit {
    int p, q, l, marks, summer;
    boolean paid;
    final TreeMap<Integer, Integer> parts = new TreeMap<>();
  }

  interface Node {
    int value(int[] facts, Law law, int l);
  }

  interface Law {
    int owedBy(int l);
  }

  static final class Fault extends RuntimeException {
    private static final long serialVersionUID = 1L;
    final int kind, place;

    Fault(int kind, int place) {
      this.kind = kind;
      this.place = place;
    }
  }

  static final class Wording {
    Node marks, when, unless;
    final List<String> tokens = new ArrayList<>();
  }

  final List<Person> persons = new ArrayList<>();
  final List<Line> lines = new ArrayList<>();
  final List<Wording> wordings = new ArrayList<>();
  final List<Suit> suits = new ArrayList<>();
  final Set<Integer> holders = new HashSet<>();
  final StringBuilder tape = new StringBuilder();
  int now, speaker = NONE, way, fault, place = NONE;

  boolean alive(int p) {
    return p >= 0 && p < persons.size() && persons.get(p).died == NONE;
  }

  int person(int quarter, int family, int born) {
    if (persons.size() == 24 || quarter < 0 || quarter > 3 || family < 0 || family > 7 || born < -90 || born > now) return NONE;
    Person one = new Person();
    one.quarter = quarter;
    one.family = family;
    one.born = born;
    persons.add(one);
    return persons.size() - 1;
  }

  boolean dies(int p) {
    if (!alive(p)) return false;
    persons.get(p).died = now;
    return true;
  }

  boolean holds(int family, boolean is) {
    if (family < 0 || family > 7) return false;
    if (is) holders.add(family); else holders.remove(family);
    return true;
  }

  boolean away(int p) {
    if (!alive(p) || persons.get(p).away) return false;
    return persons.get(p).away = true;
  }

  boolean speaker(int p) {
    if (p != NONE && !alive(p)) return false;
    speaker = p;
    return true;
  }

  boolean way(int v) {
    if (v < 0 || v > 2) return false;
    way = v;
    return true;
  }

  boolean outlaw(int p) {
    return alive(p) && suits.stream().anyMatch(s -> s.q == p && s.marks > 0 && !s.paid && now - s.summer >= 2);
  }

  int of(int p, int what) {
    if (p < 0 || p >= persons.size() || what < 0 || what > 6) return -100;
    Person one = persons.get(p);
    return new int[] {one.quarter, one.family, one.born, one.died, outlaw(p) ? 1 : 0, one.has.size(), one.away ? 1 : 0}[what];
  }

  int feed(int... numbers) {
    if (tape.length() + 20 > 400) return NONE;
    for (int n : numbers) {
      for (int shift = 24; shift >= 0; shift -= 8) tape.append((char) (n >> shift & 255));
    }
    return tape.length();
  }

  boolean end(int n) {
    if (n < 0 || n > tape.length()) return false;
    tape.setLength(n);
    return true;
  }

  int wording() {
    String text = tape.toString();
    tape.setLength(0);
    fault = 0;
    place = NONE;
    if (wordings.size() == 32) return NONE;
    try {
      wordings.add(new Parser(text).text());
      return wordings.size() - 1;
    } catch (Fault f) {
      fault = f.kind;
      place = f.place;
      return NONE;
    }
  }

  int fault(int what) {
    return what == 0 ? fault : what == 1 ? place : NONE;
  }

  static final class Parser {
    private static final Pattern TOKEN = Pattern.compile("[A-Za-z]+|[0-9]+|[^ \\n]", Pattern.DOTALL);
    private static final List<String> WORDS = List.of("marks", "when", "unless", "or", "and", "not", "harm", "witnesses",
        "years", "kin", "age", "line", ";", "+", "-", "*", "/", "(", ")", "<", "=", ">");
    private static final List<String> FACTS = List.of("harm", "witnesses", "years", "kin", "age");
    private final List<String> tokens = new ArrayList<>();
    private final List<Integer> places = new ArrayList<>();
    private int at, open;

    Parser(String text) {
      Matcher m = TOKEN.matcher(text);
      while (m.find()) {
        String t = m.group();
        boolean number = t.matches("[0-9]{1,4}");
        tokens.add(number ? Integer.toString(Integer.parseInt(t)) : WORDS.contains(t) ? t : "?");
        places.add(m.start());
      }
      tokens.add("END");
      places.add(text.length());
    }

    Wording text() {
      Wording w = new Wording();
      need("marks");
      w.marks = sum();
      if (is("when")) {
        at++;
        w.when = any();
      }
      if (is("unless")) {
        at++;
        w.unless = any();
      }
      need(";");
      if (!is("END")) throw wrong(1);
      w.tokens.addAll(tokens.subList(0, tokens.size() - 1));
      return w;
    }

    private Node any() {
      Node left = all();
      if (!is("or")) return left;
      at++;
      Node right = any();
      return (f, law, l) -> left.value(f, law, l) != 0 || right.value(f, law, l) != 0 ? 1 : 0;
    }

    private Node all() {
      Node left = condition();
      if (!is("and")) return left;
      at++;
      Node right = all();
      return (f, law, l) -> left.value(f, law, l) != 0 && right.value(f, law, l) != 0 ? 1 : 0;
    }

    private Node condition() {
      if (is("not") || is("(")) {
        if (++open == 9) throw wrong(3);
        boolean not = tokens.get(at++).equals("not");
        Node inner = not ? condition() : any();
        if (!not) need(")");
        open--;
        return not ? (f, law, l) -> 1 - inner.value(f, law, l) : inner;
      }
      Node left = sum();
      String sign = tokens.get(at);
      if (!"<=>".contains(sign)) throw wrong(1);
      at++;
      Node right = sum();
      return (f, law, l) -> {
        int a = left.value(f, law, l);
        int b = right.value(f, law, l);
        return (sign.equals("<") ? a < b : sign.equals("=") ? a == b : a > b) ? 1 : 0;
      };
    }

    private Node sum() {
      Node sum = product();
      while (is("+") || is("-")) {
        int by = tokens.get(at++).equals("+") ? 1 : -1;
        Node left = sum;
        Node right = product();
        sum = (f, law, l) -> left.value(f, law, l) + by * right.value(f, law, l);
      }
      return sum;
    }

    private Node product() {
      Node product = unit();
      while (is("*") || is("/")) {
        boolean times = tokens.get(at++).equals("*");
        Node left = product;
        Node right = times ? unit() : number(1, 9999);
        product = (f, law, l) -> times ? left.value(f, law, l) * right.value(f, law, l) : left.value(f, law, l) / right.value(f, law, l);
      }
      return product;
    }

    private Node unit() {
      int fact = FACTS.indexOf(tokens.get(at));
      if (fact >= 0) {
        at++;
        return (f, law, l) -> f[fact];
      }
      if (!is("line")) return number(0, 9999);
      at++;
      Node n = number(0, 23);
      return (f, law, l) -> n.value(f, law, l) < l ? law.owedBy(n.value(f, law, l)) : 0;
    }

    private Node number(int least, int most) {
      if (!Character.isDigit(tokens.get(at).charAt(0))) throw wrong(1);
      int n = Integer.parseInt(tokens.get(at));
      if (n < least || n > most) throw wrong(2);
      at++;
      return (f, law, l) -> n;
    }

    private boolean is(String token) {
      return tokens.get(at).equals(token);
    }

    private void need(String token) {
      if (!is(token)) throw wrong(1);
      at++;
    }

    private Fault wrong(int kind) {
      return new Fault(kind, places.get(at));
    }
  }

  int line(int section, boolean verse) {
    if (lines.size() == 24 || section < 0 || section > 2) return NONE;
    Line one = new Line();
    one.section = section;
    one.verse = verse;
    lines.add(one);
    return lines.size() - 1;
  }

  boolean isLine(int l) {
    return l >= 0 && l < lines.size();
  }

  boolean isWording(int w) {
    return w >= 0 && w < wordings.size();
  }

  boolean know(int p, int l, int w, int strength) {
    if (!alive(p) || !isLine(l) || !isWording(w) || strength < 1 || strength > 9) return false;
    persons.get(p).has.put(l, new Has(w, strength, NONE));
    return true;
  }

  boolean teach(int p, int q, int l) {
    if (!alive(p) || !alive(q) || !isLine(l)) return false;
    Has had = persons.get(p).has.get(l);
    Person learner = persons.get(q);
    if (had == null || learner.has.containsKey(l) || learner.taught == now) return false;
    learner.has.put(l, new Has(had.wording, 4, p));
    learner.taught = now;
    return true;
  }

  int has(int p, int l, int what) {
    if (p < 0 || p >= persons.size() || !isLine(l)) return NONE;
    Has h = persons.get(p).has.getOrDefault(l, new Has(NONE, 0, NONE));
    return what == 0 ? h.wording : what == 1 ? h.strength : what == 2 ? h.from : NONE;
  }

  int summers(int n) {
    if (n < 1 || n > 20 || now + n > 199) return NONE;
    for (int i = 0; i < n; i++) summer();
    return now;
  }

  private List<Person> present() {
    List<Person> present = new ArrayList<>();
    for (int p = 0; p < persons.size(); p++) {
      if (alive(p) && !persons.get(p).away && !outlaw(p)) present.add(persons.get(p));
    }
    return present;
  }

  private void summer() {
    List<Person> present = present();
    for (int l = 0; l < lines.size(); l++) {
      Line one = lines.get(l);
      if (one.section != now % 3 || one.died != NONE) continue;
      int key = l;
      List<Person> having = present.stream().filter(x -> x.has.containsKey(key)).toList();
      if (having.isEmpty()) {
        one.voices.put(now, NONE);
        if (++one.silent == 3) one.died = now;
        continue;
      }
      int w = standing(l, having);
      one.voices.put(now, w);
      one.silent = 0;
      one.times++;
      for (Person x : present) {
        Has h = x.has.get(l);
        int age = now - x.born;
        if (h == null && age >= 12 && age <= 40) x.has.put(l, new Has(w, 3, 100));
        if (h == null) continue;
        boolean keeps = holders.contains(x.family) || h.wording == w;
        x.has.put(l, new Has(keeps ? h.wording : w, Math.min(9, h.strength + 3), keeps ? h.from : 100));
      }
    }
    for (Person x : persons) {
      x.away = false;
      if (x.died != NONE) continue;
      for (int l = 0; l < lines.size(); l++) {
        boolean said = lines.get(l).voices.getOrDefault(now, NONE) >= 0;
        Has h = x.has.get(l);
        if (said || h == null || lines.get(l).verse && now % 3 != 2) continue;
        if (h.strength == 1) x.has.remove(l); else x.has.put(l, new Has(h.wording, h.strength - 1, h.from));
      }
    }
    now++;
  }

  private int standing(int l, List<Person> having) {
    Person s = speaker == NONE ? null : persons.get(speaker);
    int spoken = s != null && having.contains(s) ? s.has.get(l).wording : NONE;
    if (way == 0 && spoken != NONE) return spoken;
    List<Integer> votes = new ArrayList<>();
    if (way < 2) having.forEach(x -> votes.add(x.has.get(l).wording));
    for (int quarter = 0; way == 2 && quarter < 4; quarter++) {
      int q = quarter;
      List<Integer> own = having.stream().filter(x -> x.quarter == q).map(x -> x.has.get(l).wording).toList();
      if (!own.isEmpty()) votes.add(most(own).get(0));
    }
    List<Integer> best = most(votes);
    return best.contains(spoken) ? spoken : best.get(0);
  }

  /** The values that stand most often, in their order. */
  private static List<Integer> most(List<Integer> votes) {
    TreeMap<Integer, Integer> counts = new TreeMap<>();
    votes.forEach(v -> counts.merge(v, 1, Integer::sum));
    int top = counts.values().stream().max(Integer::compare).orElseThrow();
    return counts.keySet().stream().filter(v -> counts.get(v) == top).toList();
  }

  private List<Person> living(int l) {
    return persons.stream().filter(x -> x.died == NONE && x.has.containsKey(l)).toList();
  }

  int lineOf(int l, int what) {
    if (!isLine(l) || what < 0 || what > 6) return NONE;
    Line one = lines.get(l);
    int unlike = (int) living(l).stream().map(x -> x.has.get(l).wording).distinct().count();
    return new int[] {one.section, one.verse ? 1 : 0, one.silent, one.died, living(l).size(), unlike, one.times}[what];
  }

  int said(int l, int k) {
    return isLine(l) && k >= 0 && k < now ? lines.get(l).voices.getOrDefault(k, -2) : -2;
  }

  int stood(int l, int k) {
    if (!isLine(l) || k < 0 || k >= now || lines.get(l).died != NONE && lines.get(l).died <= k) return NONE;
    int w = NONE;
    for (int v : lines.get(l).voices.headMap(k, true).values()) w = v >= 0 ? v : w;
    return w;
  }

  private static int reckon(Wording w, int[] facts, Law law, int l) {
    if (w == null || w.when != null && w.when.value(facts, law, l) == 0) return 0;
    if (w.unless != null && w.unless.value(facts, law, l) != 0) return 0;
    return Math.max(0, Math.min(9999, w.marks.value(facts, law, l)));
  }

  private static boolean factsOk(int... f) {
    int[] least = {0, 0, 0, 0, -99};
    int[] most = {99, 9, 299, 1, 299};
    for (int i = 0; i < 5; i++) {
      if (f[i] < least[i] || f[i] > most[i]) return false;
    }
    return true;
  }

  private int byLaw(int l, int k, int[] facts, int[] memo) {
    if (memo[l] < 0) {
      int w = stood(l, k);
      memo[l] = reckon(w == NONE ? null : wordings.get(w), facts, n -> byLaw(n, k, facts, memo), l);
    }
    return memo[l];
  }

  private static int[] empty() {
    int[] memo = new int[24];
    Arrays.fill(memo, -1);
    return memo;
  }

  int owed(int l, int k, int harm, int witnesses, int years, int kin, int age) {
    if (!isLine(l) || k < 0 || k >= now || !factsOk(harm, witnesses, years, kin, age)) return NONE;
    return byLaw(l, k, new int[] {harm, witnesses, years, kin, age}, empty());
  }

  private int inBook(int l, int[] facts, int[] memo) {
    if (memo[l] < 0) {
      Integer w = lines.get(l).book;
      memo[l] = reckon(w == null ? null : wordings.get(w), facts, n -> inBook(n, facts, memo), l);
    }
    return memo[l];
  }

  int byBook(int l, int harm, int witnesses, int years, int kin, int age) {
    if (!isLine(l) || !factsOk(harm, witnesses, years, kin, age)) return NONE;
    return inBook(l, new int[] {harm, witnesses, years, kin, age}, empty());
  }

  int suit(int p, int q, int l, int harm, int witnesses, int deed) {
    if (!alive(p) || !alive(q) || p == q || !isLine(l) || suits.size() == 100) return NONE;
    Person a = persons.get(p);
    Person b = persons.get(q);
    if (deed < 0 || deed > now || a.born > deed || b.born > deed) return NONE;
    int kin = a.family == b.family ? 1 : 0;
    if (!factsOk(harm, witnesses, now - deed, kin, deed - b.born)) return NONE;
    Suit s = new Suit();
    s.p = p;
    s.q = q;
    s.l = l;
    s.summer = now;
    s.marks = now == 0 ? 0 : owed(l, now - 1, harm, witnesses, now - deed, kin, deed - b.born);
    int half = (s.marks + 1) / 2;
    int rest = s.marks - half;
    List<Integer> others = new ArrayList<>();
    for (int r = 0; r < persons.size(); r++) {
      if (r != p && alive(r) && persons.get(r).family == a.family) others.add(r);
    }
    for (int r : others) s.parts.put(r, rest / others.size());
    s.parts.put(p, half + (others.isEmpty() ? rest : rest % others.size()));
    suits.add(s);
    return suits.size() - 1;
  }

  int suitOf(int i, int what) {
    if (i < 0 || i >= suits.size()) return NONE;
    Suit s = suits.get(i);
    if (what >= 0 && what <= 5) return new int[] {s.p, s.q, s.l, s.marks, s.summer, s.paid ? 1 : 0}[what];
    return what >= 10 && what < 10 + persons.size() ? s.parts.getOrDefault(what - 10, 0) : NONE;
  }

  boolean pay(int i) {
    if (i < 0 || i >= suits.size() || suits.get(i).paid) return false;
    return suits.get(i).paid = true;
  }

  int far(int w, int v) {
    if (!isWording(w) || !isWording(v)) return NONE;
    List<String> a = wordings.get(w).tokens;
    List<String> b = wordings.get(v).tokens;
    int[][] d = new int[a.size() + 1][b.size() + 1];
    for (int i = 0; i <= a.size(); i++) {
      for (int j = 0; j <= b.size(); j++) {
        if (i == 0 || j == 0) {
          d[i][j] = i + j;
        } else {
          int change = d[i - 1][j - 1] + (a.get(i - 1).equals(b.get(j - 1)) ? 0 : 1);
          d[i][j] = Math.min(change, 1 + Math.min(d[i - 1][j], d[i][j - 1]));
        }
      }
    }
    return d[a.size()][b.size()];
  }

  private static List<Integer> members(int set) {
    List<Integer> list = new ArrayList<>();
    for (int i = 0; i < 32; i++) {
      if ((set & 1 << i) != 0) list.add(i);
    }
    return list;
  }

  int tree(int set, int what) {
    List<Integer> left = members(set);
    if (left.size() < 2 || left.size() > 8 || !left.stream().allMatch(this::isWording)) return NONE;
    TreeMap<Integer, Integer> from = new TreeMap<>();
    from.put(left.remove(0), NONE);
    int cost = 0;
    while (!left.isEmpty()) {
      int[] best = null;
      for (int w : left) {
        for (int v : from.keySet()) {
          if (best == null || far(w, v) < best[0]) best = new int[] {far(w, v), w, v};
        }
      }
      cost += best[0];
      from.put(best[1], best[2]);
      left.remove((Integer) best[1]);
    }
    return what == 0 ? cost : what >= 10 ? from.getOrDefault(what - 10, NONE) : NONE;
  }

  int loss(int set) {
    List<Integer> list = members(set);
    if (list.isEmpty() || !list.stream().allMatch(this::isLine)) return NONE;
    return list.stream().mapToInt(l -> living(l).size()).min().orElseThrow();
  }

  private int[] bestPlan;
  private int bestCost;

  int plan(int set, int m, int what) {
    List<Integer> list = members(set);
    if (list.size() > 4 || !list.stream().allMatch(this::isLine) || m < 1 || m > 3) return NONE;
    bestPlan = null;
    bestCost = Integer.MAX_VALUE;
    int[] wanting = list.stream().mapToInt(l -> Math.max(0, m - living(l).size())).toArray();
    int[] plan = new int[persons.size()];
    Arrays.fill(plan, NONE);
    tryPlans(0, list, wanting, plan, 0);
    if (bestPlan == null) return NONE;
    if (what == 0) return bestCost;
    if (what == 1) return (int) Arrays.stream(bestPlan).filter(l -> l != NONE).count();
    return what >= 10 && what < 10 + persons.size() ? bestPlan[what - 10] : NONE;
  }

  // Plans come in the order of the document, so that only a cheaper one may take the place of the best.
  private void tryPlans(int p, List<Integer> list, int[] wanting, int[] plan, int cost) {
    int open = Arrays.stream(wanting).sum();
    if (cost + open >= bestCost || open > persons.size() - p) return;
    if (open == 0) {
      bestCost = cost;
      bestPlan = plan.clone();
      return;
    }
    Person one = persons.get(p);
    for (int j = 0; j < list.size(); j++) {
      int l = list.get(j);
      if (wanting[j] == 0 || !alive(p) || one.has.containsKey(l) || living(l).isEmpty()) continue;
      boolean near = living(l).stream().anyMatch(x -> x.quarter == one.quarter);
      wanting[j]--;
      plan[p] = l;
      tryPlans(p + 1, list, wanting, plan, cost + (near ? 1 : 3));
      plan[p] = NONE;
      wanting[j]++;
    }
    tryPlans(p + 1, list, wanting, plan, cost);
  }

  boolean book(int l, int w) {
    if (!isLine(l) || w != NONE && !isWording(w)) return false;
    lines.get(l).book = w == NONE ? null : w;
    return true;
  }

  int wrong() {
    int set = 0;
    for (int l = 0; l < lines.size(); l++) {
      Integer w = lines.get(l).book;
      if (w != null && w != stood(l, now - 1)) set += 1 << l;
    }
    return set;
  }

  int look(int what) {
    if (what < 0 || what > 10) return -2;
    int living = (int) persons.stream().filter(x -> x.died == NONE).count();
    int dead = (int) lines.stream().filter(x -> x.died != NONE).count();
    int booked = (int) lines.stream().filter(x -> x.book != null).count();
    int outlaws = 0;
    for (int p = 0; p < persons.size(); p++) outlaws += outlaw(p) ? 1 : 0;
    return new int[] {now, persons.size(), living, lines.size(), dead, wordings.size(), suits.size(), speaker, way, outlaws, booked}[what];
  }
}
