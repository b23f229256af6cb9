import java.util.ArrayList;
import java.util.List;

/** Long runs of thrown calls, each answered by LawRock as by the Model. */
public final class RandomTest {
  private static final int RUNS = 1500;
  private static final int CALLS = 512;

  private final Check check;
  private final Dice dice;
  private final LawRock x = new LawRock();
  private final Model y = new Model();
  private final List<String> calls = new ArrayList<>();
  private final int style;
  private boolean differs = false;

  private RandomTest(Check check, int run) {
    this.check = check;
    this.dice = new Dice(run);
    this.style = run % 6;
  }

  private void same(String call, long got, long want) {
    calls.add(call + " -> " + got);
    check.due("call " + calls.size() + " " + call, got, want);
    differs = differs || got != want;
  }

  private void same(String call, boolean got, boolean want) {
    same(call, got ? 1L : 0L, want ? 1L : 0L);
  }

  private void run() {
    for (int i = 0; i < 400 && calls.size() < 150; i++) {
      prepare(i);
    }
    while (calls.size() < CALLS && !differs) {
      if (dice.oneIn(2)) {
        act();
      } else {
        ask();
      }
    }
  }

  private void prepare(int i) {
    int kind = style == 5 ? dice.below(8) : i % 8;
    switch (kind) {
      case 0: case 1: person(); break;
      case 2: if (i < 150) line(); break;
      case 3: if (y.wordings.size() < (style == 4 ? 32 : 7)) wording(); break;
      default: know();
    }
  }

  private void person() {
    int a = dice.near(style == 1 ? 2 : 4), b = dice.near(style == 2 ? 2 : 8);
    int c = dice.oneIn(12) ? dice.between(-95, 30) : dice.between(-50, y.now);
    same("person " + a + " " + b + " " + c, x.person(a, b, c), y.person(a, b, c));
  }

  private void line() {
    int a = dice.near(3);
    boolean verse = dice.oneIn(3);
    same("line " + a + " " + verse, x.line(a, verse), y.line(a, verse));
  }

  private void wording() {
    String text = dice.text();
    if (dice.oneIn(3)) {
      text = dice.spoiled(text);
    }
    if (text.length() > 400) {
      text = text.substring(0, 400);
    }
    int[] n = Check.numbersOf(text);
    for (int i = 0; i < n.length; i += 5) {
      same("feed", x.feed(n[i], n[i + 1], n[i + 2], n[i + 3], n[i + 4]), y.feed(n[i], n[i + 1], n[i + 2], n[i + 3], n[i + 4]));
    }
    int length = dice.oneIn(20) ? dice.near(60) : text.length();
    same("end " + length, x.end(length), y.end(length));
    same("wording '" + text + "'", x.wording(), y.wording());
    same("fault 0", x.fault(0), y.fault(0));
    same("fault 1", x.fault(1), y.fault(1));
  }

  private int p() {
    return dice.near(y.persons.size());
  }

  private int l() {
    return dice.near(y.lines.size());
  }

  private int w() {
    return dice.near(y.wordings.size());
  }

  private int k() {
    return dice.oneIn(3) ? y.now - 1 : dice.near(y.now);
  }

  private void know() {
    int p = p(), l = l(), w = w(), s = dice.oneIn(15) ? dice.near(11) : dice.between(1, 9);
    same("know " + p + " " + l + " " + w + " " + s, x.know(p, l, w, s), y.know(p, l, w, s));
  }

  private void act() {
    int p = p(), q = p(), l = l();
    switch (dice.below(17)) {
      case 0: if (dice.oneIn(style == 3 ? 1 : 4)) same("dies " + p, x.dies(p), y.dies(p)); break;
      case 1: int f = dice.near(8); boolean is = dice.oneIn(2); same("holds " + f + " " + is, x.holds(f, is), y.holds(f, is)); break;
      case 2: case 3: same("away " + p, x.away(p), y.away(p)); break;
      case 4: int s = dice.oneIn(6) ? -1 : p; same("speaker " + s, x.speaker(s), y.speaker(s)); break;
      case 5: int v = dice.near(3); same("way " + v, x.way(v), y.way(v)); break;
      case 6: if (dice.oneIn(3)) person(); break;
      case 7: if (dice.oneIn(3)) line(); break;
      case 8: if (dice.oneIn(5)) wording(); break;
      case 9: know(); break;
      case 10: case 11: same("teach " + p + " " + q + " " + l, x.teach(p, q, l), y.teach(p, q, l)); break;
      case 12: case 13: int n = dice.oneIn(12) ? dice.near(21) : dice.between(1, 3); same("summers " + n, x.summers(n), y.summers(n)); break;
      case 14: case 15: suit(); break;
      default:
        int i = dice.near(y.suits.size()), b = dice.oneIn(4) ? -1 : w();
        if (dice.oneIn(2)) {
          same("pay " + i, x.pay(i), y.pay(i));
        } else {
          same("book " + l + " " + b, x.book(l, b), y.book(l, b));
        }
    }
  }

  private void suit() {
    int p = p(), q = p(), l = l(), h = dice.near(100), w = dice.near(10);
    int deed = dice.oneIn(2) ? y.now : dice.between(-2, y.now + 1);
    same("suit " + p + " " + q + " " + l + " " + h + " " + w + " " + deed, x.suit(p, q, l, h, w, deed), y.suit(p, q, l, h, w, deed));
  }

  private int someOf(int count, int most) {
    int set = dice.oneIn(40) ? 1 << dice.below(32) : 0;
    for (int i = dice.between(dice.oneIn(9) ? 0 : 1, most); i > 0 && count > 0; i--) {
      set |= 1 << dice.below(count);
    }
    return set;
  }

  private void ask() {
    int p = p(), l = l(), k = k();
    switch (dice.below(15)) {
      case 0: int a = dice.near(7); same("of " + p + " " + a, x.of(p, a), y.of(p, a)); break;
      case 1: case 2: int b = dice.near(3); same("has " + p + " " + l + " " + b, x.has(p, l, b), y.has(p, l, b)); break;
      case 3: int c = dice.near(7); same("lineOf " + l + " " + c, x.lineOf(l, c), y.lineOf(l, c)); break;
      case 4: same("said " + l + " " + k, x.said(l, k), y.said(l, k)); break;
      case 5: same("stood " + l + " " + k, x.stood(l, k), y.stood(l, k)); break;
      case 6: case 7: owed(l, k); break;
      case 8: int i = dice.near(y.suits.size()), d = dice.oneIn(2) ? dice.near(6) : 10 + p; same("suitOf " + i + " " + d, x.suitOf(i, d), y.suitOf(i, d)); break;
      case 9: int w = w(), v = w(); same("far " + w + " " + v, x.far(w, v), y.far(w, v)); break;
      case 10: int t = someOf(y.wordings.size(), 9), e = dice.oneIn(2) ? 0 : 10 + w(); same("tree " + t + " " + e, x.tree(t, e), y.tree(t, e)); break;
      case 11: int u = someOf(y.lines.size(), 3); same("loss " + u, x.loss(u), y.loss(u)); break;
      case 12: case 13: plan(); break;
      default: int g = dice.near(11); same("look " + g, x.look(g), y.look(g)); same("wrong", x.wrong(), y.wrong());
    }
  }

  private void owed(int l, int k) {
    int h = dice.near(100), w = dice.near(10), t = dice.oneIn(4) ? dice.near(300) : dice.below(9), kin = dice.near(2), age = dice.near(300);
    String facts = l + " " + h + " " + w + " " + t + " " + kin + " " + age;
    if (dice.oneIn(3)) {
      same("byBook " + facts, x.byBook(l, h, w, t, kin, age), y.byBook(l, h, w, t, kin, age));
    } else {
      same("owed at " + k + " " + facts, x.owed(l, k, h, w, t, kin, age), y.owed(l, k, h, w, t, kin, age));
    }
  }

  private void plan() {
    int set = someOf(y.lines.size(), 5), m = dice.oneIn(20) ? dice.near(4) : dice.between(1, 3);
    int what = dice.oneIn(3) ? dice.near(2) : 10 + p();
    same("plan " + set + " " + m + " " + what, x.plan(set, m, what), y.plan(set, m, what));
  }

  public static void main(String[] args) {
    Check check = new Check("RandomTest");
    int runs = args.length > 0 ? Integer.parseInt(args[0]) : RUNS;
    for (int run = 0; run < runs; run++) {
      RandomTest test = new RandomTest(check, run);
      test.run();
      if (test.differs) {
        System.out.println("run " + run + " differs:");
        test.calls.forEach(System.out::println);
        break;
      }
    }
    check.close();
  }
}
