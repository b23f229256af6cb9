import java.util.ArrayList;
import java.util.Arrays;

/** A law kept by heart and said aloud from a rock; DOC.md tells what each public method promises. */
public final class LawRock {
  public static final int NONE = -1;

  private static final int LAST_SUMMER = 199;
  private static final int MOST_SUMMERS_A_CALL = 20;
  private static final int MOST_PERSONS = 24;
  private static final int QUARTERS = 4;
  private static final int FAMILIES = 8;
  private static final int EARLIEST_BIRTH = -90;
  private static final int MOST_LINES = 24;
  private static final int SECTIONS = 3;
  private static final int MOST_WORDINGS = 32;
  private static final int MOST_SUITS = 100;
  private static final int MOST_BYTES = 400;
  private static final int BYTES_A_FEED = 20;

  private static final int SPEAKER_WAY = 0;
  private static final int QUARTERS_WAY = 2;

  private static final int THE_ROCK = 100;
  private static final int FULL_STRENGTH = 9;
  private static final int HEARD_STRENGTH = 3;
  private static final int TAUGHT_STRENGTH = 4;
  private static final int YOUNGEST_LISTENER = 12;
  private static final int OLDEST_LISTENER = 40;
  private static final int SILENCES_TO_DEATH = 3;
  private static final int NOT_SAID_NOR_SILENT = NONE - 1;
  private static final int SUMMERS_TO_OUTLAW = 2;

  private static final int LEAST_TREE = 2;
  private static final int LARGEST_TREE = 8;
  private static final int MOST_PLAN_LINES = 4;
  private static final int MOST_PLAN_HOLDERS = 3;

  private final ArrayList<Person> persons = new ArrayList<Person>();
  private final ArrayList<Line> lines = new ArrayList<Line>();
  private final ArrayList<Wording> wordings = new ArrayList<Wording>();
  private final ArrayList<Suit> suits = new ArrayList<Suit>();
  private final boolean[] holding = new boolean[FAMILIES];
  private final char[] tape = new char[MOST_BYTES];
  private int tapeLength = 0;
  private int now = 0;
  private int speakerNumber = NONE;
  private int wayNumber = SPEAKER_WAY;
  private int faultKind = 0;
  private int faultPlace = NONE;
  private final Reader reader = new Reader();
  private final Reckoner reckoner = new Reckoner();
  private final int[] heads = new int[MOST_WORDINGS];
  private final int[] voices = new int[MOST_WORDINGS];
  private final int[] changes = new int[MOST_BYTES + 1];
  // Made by the first plan() alone: its table is by far the largest, and most objects never need it.
  private Planner planner = null;

  public LawRock() {
  }

  // ---- persons ----

  public int person(int quarter, int family, int born) {
    boolean placed = quarter >= 0 && quarter < QUARTERS && family >= 0 && family < FAMILIES;
    if (!placed || born < EARLIEST_BIRTH || born > now || persons.size() >= MOST_PERSONS) {
      return NONE;
    }
    persons.add(new Person(quarter, family, born));
    return persons.size() - 1;
  }

  public boolean dies(int p) {
    Person one = livingAt(p);
    if (one == null) {
      return false;
    }
    one.died = now;
    return true;
  }

  public boolean holds(int family, boolean is) {
    if (family < 0 || family >= holding.length) {
      return false;
    }
    holding[family] = is;
    return true;
  }

  public boolean away(int p) {
    Person one = livingAt(p);
    if (one == null || one.away) {
      return false;
    }
    one.away = true;
    return true;
  }

  public boolean speaker(int p) {
    if (p != NONE && livingAt(p) == null) {
      return false;
    }
    speakerNumber = p;
    return true;
  }

  public boolean way(int v) {
    if (v < SPEAKER_WAY || v > QUARTERS_WAY) {
      return false;
    }
    wayNumber = v;
    return true;
  }

  public int of(int p, int what) {
    Person one = personAt(p);
    if (one == null) {
      return NONE - 99;
    }
    switch (what) {
      case 0: return one.quarter;
      case 1: return one.family;
      case 2: return one.born;
      case 3: return one.died;
      case 4: return isOutlaw(p) ? 1 : 0;
      case 5: return one.countLines();
      case 6: return one.away ? 1 : 0;
      default: return NONE - 99;
    }
  }

  private Person personAt(int p) {
    return p >= 0 && p < persons.size() ? persons.get(p) : null;
  }

  private Person livingAt(int p) {
    Person one = personAt(p);
    return one != null && one.lives() ? one : null;
  }

  private int countLiving() {
    int count = 0;
    for (int p = 0; p < persons.size(); p++) {
      count += persons.get(p).lives() ? 1 : 0;
    }
    return count;
  }

  private boolean isOutlaw(int p) {
    if (livingAt(p) == null) {
      return false;
    }
    for (int i = 0; i < suits.size(); i++) {
      Suit one = suits.get(i);
      if (one.against == p && one.isOpen() && now - one.summer >= SUMMERS_TO_OUTLAW) {
        return true;
      }
    }
    return false;
  }

  private int countOutlaws() {
    int count = 0;
    for (int p = 0; p < persons.size(); p++) {
      count += isOutlaw(p) ? 1 : 0;
    }
    return count;
  }

  private boolean isHolding(Person one) {
    return one.family >= 0 && one.family < holding.length && holding[one.family];
  }

  // ---- the tape and the wordings ----

  public int feed(int a, int b, int c, int d, int e) {
    if (tapeLength > MOST_BYTES - BYTES_A_FEED) {
      return NONE;
    }
    putBytes(a);
    putBytes(b);
    putBytes(c);
    putBytes(d);
    putBytes(e);
    return tapeLength;
  }

  private void putBytes(int number) {
    for (int shift = 24; shift >= 0; shift -= 8) {
      if (tapeLength >= 0 && tapeLength < tape.length) {
        tape[tapeLength] = (char) ((number >>> shift) & 255);
        tapeLength++;
      }
    }
  }

  public boolean end(int n) {
    if (n < 0 || n > tapeLength) {
      return false;
    }
    tapeLength = n;
    return true;
  }

  public int wording() {
    int length = tapeLength;
    tapeLength = 0;
    faultKind = 0;
    faultPlace = NONE;
    if (wordings.size() >= MOST_WORDINGS) {
      return NONE;
    }
    if (!reader.read(tape, length)) {
      faultKind = reader.faultKind;
      faultPlace = reader.faultPlace;
      return NONE;
    }
    wordings.add(new Wording(wordings.size(), reader.copyOfTokens(), reader.copyOfCode()));
    return wordings.size() - 1;
  }

  public int fault(int what) {
    if (what == 0) {
      return faultKind;
    }
    return what == 1 ? faultPlace : NONE;
  }

  private boolean isWording(int w) {
    return w >= 0 && w < wordings.size();
  }

  private Wording wordingAt(int w) {
    return isWording(w) ? wordings.get(w) : null;
  }

  // ---- lines and who has them ----

  public int line(int section, boolean verse) {
    if (section < 0 || section >= SECTIONS || lines.size() >= MOST_LINES) {
      return NONE;
    }
    lines.add(new Line(section, verse));
    return lines.size() - 1;
  }

  public boolean know(int p, int l, int w, int strength) {
    Person one = livingAt(p);
    if (one == null || !isLine(l) || !isWording(w) || strength < 1 || strength > FULL_STRENGTH) {
      return false;
    }
    one.learn(l, w, strength, NONE);
    return true;
  }

  public boolean teach(int p, int q, int l) {
    Person teacher = livingAt(p);
    Person learner = livingAt(q);
    if (teacher == null || learner == null || !isLine(l)) {
      return false;
    }
    if (!teacher.knows(l) || learner.knows(l) || learner.taughtIn == now) {
      return false;
    }
    learner.learn(l, teacher.wordingOf(l), TAUGHT_STRENGTH, p);
    learner.taughtIn = now;
    return true;
  }

  public int has(int p, int l, int what) {
    Person one = personAt(p);
    if (one == null || !isLine(l)) {
      return NONE;
    }
    switch (what) {
      case 0: return one.wordingOf(l);
      case 1: return one.strengthOf(l);
      case 2: return one.sourceOf(l);
      default: return NONE;
    }
  }

  public int lineOf(int l, int what) {
    Line one = lineAt(l);
    if (one == null) {
      return NONE;
    }
    switch (what) {
      case 0: return one.section;
      case 1: return one.verse ? 1 : 0;
      case 2: return one.silences;
      case 3: return one.died;
      case 4: return countHolders(l);
      case 5: return countWordings(l);
      case 6: return one.timesSaid;
      default: return NONE;
    }
  }

  private boolean isLine(int l) {
    return l >= 0 && l < lines.size();
  }

  private Line lineAt(int l) {
    return isLine(l) ? lines.get(l) : null;
  }

  private boolean areLines(int set) {
    return set >>> lines.size() == 0;
  }

  private int countHolders(int l) {
    int count = 0;
    for (int p = 0; p < persons.size(); p++) {
      Person one = persons.get(p);
      count += one.lives() && one.knows(l) ? 1 : 0;
    }
    return count;
  }

  private int countWordings(int l) {
    int seen = 0;
    for (int p = 0; p < persons.size(); p++) {
      Person one = persons.get(p);
      if (one.lives() && one.knows(l)) {
        seen |= 1 << one.wordingOf(l);
      }
    }
    return Integer.bitCount(seen);
  }

  private int countDead() {
    int count = 0;
    for (int l = 0; l < lines.size(); l++) {
      count += lines.get(l).isDead() ? 1 : 0;
    }
    return count;
  }

  // ---- summers ----

  public int summers(int n) {
    if (n < 1 || n > MOST_SUMMERS_A_CALL || now + n > LAST_SUMMER) {
      return NONE;
    }
    for (int i = 0; i < n; i++) {
      passSummer();
    }
    return now;
  }

  private void passSummer() {
    int present = presentOnes();
    int heard = 0;
    for (int l = 0; l < lines.size(); l++) {
      Line one = lines.get(l);
      if (one.section == now % SECTIONS && !one.isDead() && callLine(l, one, present)) {
        heard |= 1 << l;
      }
    }
    for (int l = 0; l < lines.size(); l++) {
      boolean keeps = lines.get(l).verse && now % SECTIONS != SECTIONS - 1;
      if ((heard >>> l & 1) == 0 && !keeps) {
        fade(l);
      }
    }
    for (int p = 0; p < persons.size(); p++) {
      persons.get(p).away = false;
    }
    now++;
  }

  /** The persons present, as a set; it can't change while a summer goes by. */
  private int presentOnes() {
    int present = 0;
    for (int p = 0; p < persons.size(); p++) {
      Person one = persons.get(p);
      if (one.lives() && !one.away && !isOutlaw(p)) {
        present |= 1 << p;
      }
    }
    return present;
  }

  private boolean callLine(int l, Line one, int present) {
    int w = standingWording(l, present);
    if (w == NONE) {
      one.fallSilent(now);
      return false;
    }
    one.sayAloud(now, w);
    for (int p = 0; p < persons.size(); p++) {
      if ((present >>> p & 1) != 0) {
        hear(persons.get(p), l, w);
      }
    }
    return true;
  }

  private void hear(Person one, int l, int w) {
    int years = now - one.born;
    if (one.knows(l)) {
      one.strengthen(l);
      if (!isHolding(one) && one.wordingOf(l) != w) {
        one.learn(l, w, one.strengthOf(l), THE_ROCK);
      }
    } else if (years >= YOUNGEST_LISTENER && years <= OLDEST_LISTENER) {
      one.learn(l, w, HEARD_STRENGTH, THE_ROCK);
    }
  }

  private void fade(int l) {
    for (int p = 0; p < persons.size(); p++) {
      Person one = persons.get(p);
      if (one.lives()) {
        one.weaken(l);
      }
    }
  }

  /** The wording that stands for line l, NONE if nobody present has it. */
  private int standingWording(int l, int present) {
    int spoken = speakersWording(l, present);
    if (wayNumber == SPEAKER_WAY && spoken != NONE) {
      return spoken;
    }
    if (wayNumber != QUARTERS_WAY) {
      countHeads(l, present);
      return mostOf(heads, spoken);
    }
    Arrays.fill(voices, 0);
    for (int quarter = 0; quarter < QUARTERS; quarter++) {
      countHeads(l, present & personsOf(quarter));
      int w = mostOf(heads, NONE);
      if (w >= 0 && w < voices.length) {
        voices[w]++;
      }
    }
    return mostOf(voices, spoken);
  }

  private int speakersWording(int l, int present) {
    Person one = personAt(speakerNumber);
    boolean heard = one != null && (present >>> speakerNumber & 1) != 0;
    return heard ? one.wordingOf(l) : NONE;
  }

  private int personsOf(int quarter) {
    int set = 0;
    for (int p = 0; p < persons.size(); p++) {
      if (persons.get(p).quarter == quarter) {
        set |= 1 << p;
      }
    }
    return set;
  }

  private void countHeads(int l, int set) {
    Arrays.fill(heads, 0);
    for (int p = 0; p < persons.size(); p++) {
      int w = (set >>> p & 1) != 0 ? persons.get(p).wordingOf(l) : NONE;
      if (w >= 0 && w < heads.length) {
        heads[w]++;
      }
    }
  }

  /** Which has the highest count: the favoured one if it is among them, else the least; NONE if all are 0. */
  private static int mostOf(int[] counts, int favoured) {
    int best = NONE;
    int most = 0;
    for (int w = 0; w < counts.length; w++) {
      if (counts[w] > most) {
        most = counts[w];
        best = w;
      }
    }
    boolean ties = favoured >= 0 && favoured < counts.length && most > 0 && counts[favoured] == most;
    return ties ? favoured : best;
  }

  // ---- the law ----

  public int said(int l, int k) {
    Line one = lineAt(l);
    return one == null || !isPast(k) ? NOT_SAID_NOR_SILENT : one.voiceIn(k);
  }

  public int stood(int l, int k) {
    Line one = lineAt(l);
    return one == null || !isPast(k) ? NONE : one.lawAt(k);
  }

  public int owed(int l, int k, int harm, int witnesses, int years, int kin, int age) {
    if (!isLine(l) || !isPast(k) || !reckoner.takeFacts(harm, witnesses, years, kin, age)) {
      return NONE;
    }
    return reckonByLaw(l, k);
  }

  public int byBook(int l, int harm, int witnesses, int years, int kin, int age) {
    if (!isLine(l) || !reckoner.takeFacts(harm, witnesses, years, kin, age)) {
      return NONE;
    }
    for (int n = 0; n <= l && n < lines.size(); n++) {
      reckoner.reckon(n, wordingAt(lines.get(n).inBook));
    }
    return reckoner.owedBy(l);
  }

  private boolean isPast(int k) {
    return k >= 0 && k < now;
  }

  // A line looks at lesser lines alone, so that reckoning them upwards needs no recursion.
  private int reckonByLaw(int l, int k) {
    for (int n = 0; n <= l && n < lines.size(); n++) {
      reckoner.reckon(n, wordingAt(lines.get(n).lawAt(k)));
    }
    return reckoner.owedBy(l);
  }

  // ---- suits ----

  public int suit(int p, int q, int l, int harm, int witnesses, int deed) {
    Person claimant = livingAt(p);
    Person doer = livingAt(q);
    if (claimant == null || doer == null || p == q || !isLine(l) || suits.size() >= MOST_SUITS) {
      return NONE;
    }
    if (deed < 0 || deed > now || deed < claimant.born || deed < doer.born) {
      return NONE;
    }
    int kin = claimant.family == doer.family ? 1 : 0;
    if (!reckoner.takeFacts(harm, witnesses, now - deed, kin, deed - doer.born)) {
      return NONE;
    }
    suits.add(new Suit(p, q, l, reckonByLaw(l, now - 1), now, livingKinOf(p, claimant.family)));
    return suits.size() - 1;
  }

  public int suitOf(int i, int what) {
    Suit one = suitAt(i);
    if (one == null) {
      return NONE;
    }
    switch (what) {
      case 0: return one.claimant;
      case 1: return one.against;
      case 2: return one.lineNumber;
      case 3: return one.marks;
      case 4: return one.summer;
      case 5: return one.paid ? 1 : 0;
      default: return what >= 10 && what - 10 < persons.size() ? one.partOf(what - 10) : NONE;
    }
  }

  public boolean pay(int i) {
    Suit one = suitAt(i);
    if (one == null || one.paid) {
      return false;
    }
    one.paid = true;
    return true;
  }

  private Suit suitAt(int i) {
    return i >= 0 && i < suits.size() ? suits.get(i) : null;
  }

  private int livingKinOf(int p, int family) {
    int set = 0;
    for (int r = 0; r < persons.size(); r++) {
      Person one = persons.get(r);
      if (r != p && one.lives() && one.family == family) {
        set |= 1 << r;
      }
    }
    return set;
  }

  // ---- wordings beside one another ----

  public int far(int w, int v) {
    return isWording(w) && isWording(v) ? distance(w, v) : NONE;
  }

  public int tree(int set, int what) {
    int size = Integer.bitCount(set);
    boolean member = what >= 10 && what - 10 < MOST_WORDINGS && (set >>> (what - 10) & 1) != 0;
    if (!areWordings(set) || size < LEAST_TREE || size > LARGEST_TREE || what != 0 && !member) {
      return NONE;
    }
    int grown = Integer.lowestOneBit(set);
    int cost = 0;
    for (int i = 1; i < size; i++) {
      int branch = nearestBranch(set & ~grown, grown);
      int w = branch / MOST_WORDINGS;
      int from = branch % MOST_WORDINGS;
      if (what == 10 + w) {
        return from;
      }
      cost += distance(w, from);
      grown |= 1 << w;
    }
    return what == 0 ? cost : NONE;
  }

  /** Of the sets the two that are least far: the outer one times MOST_WORDINGS, and the grown one. */
  private int nearestBranch(int outer, int grown) {
    int least = MOST_BYTES + 1;
    int branch = 0;
    for (int w = 0; w < wordings.size(); w++) {
      for (int v = 0; v < wordings.size(); v++) {
        if ((outer >>> w & 1) != 0 && (grown >>> v & 1) != 0 && distance(w, v) < least) {
          least = distance(w, v);
          branch = w * MOST_WORDINGS + v;
        }
      }
    }
    return branch;
  }

  private boolean areWordings(int set) {
    return wordings.size() >= MOST_WORDINGS || set >>> wordings.size() == 0;
  }

  // Wordings never change, so each distance is reckoned once and kept by the greater of the two.
  private int distance(int w, int v) {
    Wording greater = wordingAt(Math.max(w, v));
    Wording lesser = wordingAt(Math.min(w, v));
    if (greater == null || lesser == null || w == v) {
      return 0;
    }
    int known = greater.distanceTo(lesser.number);
    if (known == NONE) {
      known = greater.leastChanges(lesser, changes);
      greater.keepDistance(lesser.number, known);
    }
    return known;
  }

  // ---- whom to teach ----

  public int loss(int set) {
    if (set == 0 || !areLines(set)) {
      return NONE;
    }
    int fewest = MOST_PERSONS;
    for (int l = 0; l < lines.size(); l++) {
      if ((set >>> l & 1) != 0) {
        fewest = Math.min(fewest, countHolders(l));
      }
    }
    return fewest;
  }

  public int plan(int set, int m, int what) {
    if (!areLines(set) || Integer.bitCount(set) > MOST_PLAN_LINES || m < 1 || m > MOST_PLAN_HOLDERS) {
      return NONE;
    }
    boolean ofPerson = what >= 10 && what - 10 < persons.size();
    if (what != 0 && what != 1 && !ofPerson) {
      return NONE;
    }
    Planner best = planner == null ? new Planner() : planner;
    planner = best;
    best.begin(persons.size());
    for (int l = 0; l < lines.size(); l++) {
      if ((set >>> l & 1) != 0) {
        best.addLine(l, Math.max(0, m - countHolders(l)));
        putPrices(best, l);
      }
    }
    best.solve();
    return ofPerson ? best.lessonOf(what - 10) : what == 0 ? best.cost() : best.teachings();
  }

  private void putPrices(Planner best, int l) {
    int quarters = 0;
    for (int p = 0; p < persons.size(); p++) {
      Person one = persons.get(p);
      if (one.lives() && one.knows(l)) {
        quarters |= 1 << one.quarter;
      }
    }
    for (int p = 0; p < persons.size(); p++) {
      Person one = persons.get(p);
      if (one.lives() && !one.knows(l) && quarters != 0) {
        best.putPrice(p, (quarters >>> one.quarter & 1) != 0 ? 1 : 3);
      }
    }
  }

  // ---- the book ----

  public boolean book(int l, int w) {
    Line one = lineAt(l);
    if (one == null || w != NONE && !isWording(w)) {
      return false;
    }
    one.inBook = w;
    return true;
  }

  public int wrong() {
    int set = 0;
    for (int l = 0; l < lines.size(); l++) {
      Line one = lines.get(l);
      if (one.inBook != NONE && one.inBook != one.lawAt(now - 1)) {
        set |= 1 << l;
      }
    }
    return set;
  }

  private int countBooked() {
    int count = 0;
    for (int l = 0; l < lines.size(); l++) {
      count += lines.get(l).inBook != NONE ? 1 : 0;
    }
    return count;
  }

  // ---- all of it ----

  public int look(int what) {
    switch (what) {
      case 0: return now;
      case 1: return persons.size();
      case 2: return countLiving();
      case 3: return lines.size();
      case 4: return countDead();
      case 5: return wordings.size();
      case 6: return suits.size();
      case 7: return speakerNumber;
      case 8: return wayNumber;
      case 9: return countOutlaws();
      case 10: return countBooked();
      default: return NONE - 1;
    }
  }

  /** A person and how it has each line: strength 0 (then no wording, from nobody) means that it does not. */
  private static final class Person {
    final int quarter;
    final int family;
    final int born;
    int died = NONE;
    boolean away = false;
    int taughtIn = NONE;
    private final int[] wordings = new int[MOST_LINES];
    private final int[] strengths = new int[MOST_LINES];
    private final int[] sources = new int[MOST_LINES];

    Person(int quarter, int family, int born) {
      this.quarter = quarter;
      this.family = family;
      this.born = born;
      Arrays.fill(wordings, NONE);
      Arrays.fill(sources, NONE);
    }

    boolean lives() {
      return died == NONE;
    }

    boolean knows(int l) {
      return strengthOf(l) > 0;
    }

    int strengthOf(int l) {
      return l >= 0 && l < strengths.length ? strengths[l] : 0;
    }

    int wordingOf(int l) {
      return l >= 0 && l < wordings.length ? wordings[l] : NONE;
    }

    int sourceOf(int l) {
      return l >= 0 && l < sources.length ? sources[l] : NONE;
    }

    int countLines() {
      int count = 0;
      for (int l = 0; l < strengths.length; l++) {
        count += strengths[l] > 0 ? 1 : 0;
      }
      return count;
    }

    void learn(int l, int w, int strength, int source) {
      if (l >= 0 && l < wordings.length && l < strengths.length && l < sources.length) {
        wordings[l] = w;
        strengths[l] = strength;
        sources[l] = source;
      }
    }

    void strengthen(int l) {
      if (l >= 0 && l < strengths.length) {
        strengths[l] = Math.min(FULL_STRENGTH, strengths[l] + HEARD_STRENGTH);
      }
    }

    void weaken(int l) {
      int left = strengthOf(l) - 1;
      if (left > 0) {
        learn(l, wordingOf(l), left, sourceOf(l));
      } else {
        learn(l, NONE, 0, NONE);
      }
    }
  }

  /** A line, what became of it in each summer, and its wording in the book. */
  private static final class Line {
    final int section;
    final boolean verse;
    int silences = 0;
    int died = NONE;
    int timesSaid = 0;
    int inBook = NONE;
    private final byte[] voices = new byte[LAST_SUMMER + 1];

    Line(int section, boolean verse) {
      this.section = section;
      this.verse = verse;
      Arrays.fill(voices, (byte) NOT_SAID_NOR_SILENT);
    }

    boolean isDead() {
      return died != NONE;
    }

    void fallSilent(int summer) {
      setVoice(summer, NONE);
      silences++;
      if (silences >= SILENCES_TO_DEATH) {
        died = summer;
      }
    }

    void sayAloud(int summer, int w) {
      setVoice(summer, w);
      silences = 0;
      timesSaid++;
    }

    private void setVoice(int summer, int voice) {
      if (summer >= 0 && summer < voices.length) {
        voices[summer] = (byte) voice;
      }
    }

    int voiceIn(int k) {
      return k >= 0 && k < voices.length ? voices[k] : NOT_SAID_NOR_SILENT;
    }

    /** The wording in which it was said last up to summer k, NONE if there is none or it is dead by then. */
    int lawAt(int k) {
      if (isDead() && died <= k) {
        return NONE;
      }
      for (int t = Math.min(k, voices.length - 1); t >= 0; t--) {
        if (voices[t] >= 0) {
          return voices[t];
        }
      }
      return NONE;
    }
  }

  /** A suit; who shares in it is kept as it was when it was brought. */
  private static final class Suit {
    final int claimant;
    final int against;
    final int lineNumber;
    final int marks;
    final int summer;
    private final int sharers;
    boolean paid = false;

    Suit(int claimant, int against, int lineNumber, int marks, int summer, int sharers) {
      this.claimant = claimant;
      this.against = against;
      this.lineNumber = lineNumber;
      this.marks = marks;
      this.summer = summer;
      this.sharers = sharers;
    }

    boolean isOpen() {
      return !paid && marks > 0;
    }

    int partOf(int r) {
      int count = Integer.bitCount(sharers);
      int share = count > 0 ? marks / 2 / count : 0;
      if (r == claimant) {
        return marks - share * count;
      }
      return r >= 0 && r < MOST_PERSONS && (sharers >>> r & 1) != 0 ? share : 0;
    }
  }

  /** A wording: its tokens, its code for the Reckoner, and how far the lesser wordings are from it. */
  private static final class Wording {
    final int number;
    private final int[] tokens;
    private final int[] code;
    private final int[] distances;

    Wording(int number, int[] tokens, int[] code) {
      this.number = number;
      this.tokens = tokens;
      this.code = code;
      this.distances = new int[Math.max(0, number)];
      Arrays.fill(this.distances, NONE);
    }

    int distanceTo(int lesser) {
      return lesser >= 0 && lesser < distances.length ? distances[lesser] : NONE;
    }

    void keepDistance(int lesser, int changes) {
      if (lesser >= 0 && lesser < distances.length) {
        distances[lesser] = changes;
      }
    }

    int codeLength() {
      return code.length;
    }

    int codeAt(int i) {
      return i >= 0 && i < code.length ? code[i] : 0;
    }

    // What two texts share at both ends is never changed on a shortest way; leaving it out saves most of the work.
    int leastChanges(Wording other, int[] row) {
      int[] mine = tokens;
      int[] theirs = other.tokens;
      int head = 0;
      while (head < mine.length && head < theirs.length && mine[head] == theirs[head]) {
        head++;
      }
      int tail = 0;
      while (tail < mine.length && isSameFromEnd(mine, theirs, head, tail)) {
        tail++;
      }
      int width = theirs.length - tail - head;
      for (int j = 0; j <= width && j < row.length; j++) {
        row[j] = j;
      }
      for (int i = head; i < mine.length - tail; i++) {
        stepRow(mine[i], theirs, head, row, width);
      }
      return width >= 0 && width < row.length ? row[width] : 0;
    }

    /** Whether the tokens before a tail of the same length, and behind the head, are the same. */
    private static boolean isSameFromEnd(int[] mine, int[] theirs, int head, int tail) {
      int i = mine.length - 1 - tail;
      int j = theirs.length - 1 - tail;
      return i >= head && j >= head && i < mine.length && j < theirs.length && mine[i] == theirs[j];
    }

    private static void stepRow(int token, int[] theirs, int head, int[] row, int width) {
      if (row.length == 0) {
        return;
      }
      int diagonal = row[0];
      int left = diagonal + 1;
      row[0] = left;
      for (int j = 1; j <= width && j < row.length && head + j - 1 < theirs.length; j++) {
        int above = row[j];
        int changed = diagonal + (token == theirs[head + j - 1] ? 0 : 1);
        left = Math.min(changed, Math.min(above, left) + 1);
        row[j] = left;
        diagonal = above;
      }
    }
  }

  /**
   * What stands in texts. Signs are their own numbers; a keyword's number is above all signs. In a wording's tokens
   * a number stands for itself and all others lie above NOT_NUMBER; in its code, which is in the order of a stack
   * machine, a number stands for itself, line N is LINE_CODE + N, and the rest are negative.
   */
  private static final class Words {
    static final int TEXT_END = 1;
    static final int UNKNOWN = 2;
    static final int NUMBER = 3;
    static final int MARKS = 301;
    static final int WHEN = 302;
    static final int UNLESS = 303;
    static final int OR = 304;
    static final int AND = 305;
    static final int NOT = 306;
    static final int HARM = 307;
    static final int WITNESSES = 308;
    static final int YEARS = 309;
    static final int KIN = 310;
    static final int AGE = 311;
    static final int LINE = 312;
    static final int NOT_NUMBER = 10000;
    static final int LINE_CODE = 10000;
    static final int FACTS = 5;

    private Words() {
    }

    static boolean isLetter(int sign) {
      return sign >= 'a' && sign <= 'z' || sign >= 'A' && sign <= 'Z';
    }

    static boolean isDigit(int sign) {
      return sign >= '0' && sign <= '9';
    }

    static boolean isBlank(int sign) {
      return sign == 32 || sign == 10;
    }

    static boolean isSign(int sign) {
      switch (sign) {
        case ';': case '+': case '-': case '*': case '/':
        case '(': case ')': case '<': case '=': case '>':
          return true;
        default:
          return false;
      }
    }

    static boolean isFact(int kind) {
      return kind >= HARM && kind <= AGE;
    }

    static boolean isReckoning(int kind) {
      return kind == '+' || kind == '-' || kind == '*' || kind == '/';
    }

    static int keywordIn(char[] text, int from, int to) {
      for (int kind = MARKS; kind <= LINE; kind++) {
        if (isWord(spelling(kind), text, from, to)) {
          return kind;
        }
      }
      return UNKNOWN;
    }

    private static boolean isWord(String word, char[] text, int from, int to) {
      if (from < 0 || to > text.length || to - from != word.length()) {
        return false;
      }
      for (int i = 0; i < word.length(); i++) {
        if (text[from + i] != word.charAt(i)) {
          return false;
        }
      }
      return true;
    }

    private static String spelling(int kind) {
      switch (kind) {
        case MARKS: return "marks";
        case WHEN: return "when";
        case UNLESS: return "unless";
        case OR: return "or";
        case AND: return "and";
        case NOT: return "not";
        case HARM: return "harm";
        case WITNESSES: return "witnesses";
        case YEARS: return "years";
        case KIN: return "kin";
        case AGE: return "age";
        default: return "line";
      }
    }
  }

  /** Parts a text into tokens; what is none of them stands among them as UNKNOWN. */
  private static final class Scan {
    private static final int MOST_DIGITS = 4;

    private final int[] kinds = new int[MOST_BYTES];
    private final int[] values = new int[MOST_BYTES];
    private final int[] places = new int[MOST_BYTES];
    private int count = 0;
    private int length = 0;

    void scan(char[] text, int newLength) {
      count = 0;
      length = Math.max(0, Math.min(newLength, text.length));
      int behind = 0;
      for (int at = 0; at < length; at++) {
        if (at >= behind) {
          behind = Words.isBlank(text[at]) ? at + 1 : scanToken(text, at);
        }
      }
    }

    /** Keeps the token that begins at a place below the length, and tells the place behind it. */
    private int scanToken(char[] text, int from) {
      int to = from + 1;
      int sign = from >= 0 && from < text.length ? text[from] : 0;
      if (Words.isLetter(sign)) {
        while (to < length && to < text.length && Words.isLetter(text[to])) {
          to++;
        }
        keep(Words.keywordIn(text, from, to), 0, from);
      } else if (Words.isDigit(sign)) {
        int value = sign - '0';
        while (to < length && to < text.length && Words.isDigit(text[to])) {
          value = value * 10 + (text[to] - '0');
          to++;
        }
        keep(to - from <= MOST_DIGITS ? Words.NUMBER : Words.UNKNOWN, value, from);
      } else {
        keep(Words.isSign(sign) ? sign : Words.UNKNOWN, 0, from);
      }
      return to;
    }

    private void keep(int kind, int value, int place) {
      if (count >= 0 && count < MOST_BYTES) {
        kinds[count] = kind;
        values[count] = value;
        places[count] = place;
        count++;
      }
    }

    int kindAt(int i) {
      return i >= 0 && i < count && i < kinds.length ? kinds[i] : Words.TEXT_END;
    }

    int valueAt(int i) {
      return i >= 0 && i < count && i < values.length ? values[i] : 0;
    }

    int placeAt(int i) {
      return i >= 0 && i < count && i < places.length ? places[i] : length;
    }

    /** The tokens by which wordings are compared: a number is its value, all others lie above the numbers. */
    int[] copyOfTokens() {
      int[] tokens = new int[Math.max(0, count)];
      for (int i = 0; i < tokens.length; i++) {
        tokens[i] = kindAt(i) == Words.NUMBER ? valueAt(i) : Words.NOT_NUMBER + kindAt(i);
      }
      return tokens;
    }
  }

  /** Reads the tokens of a text into code for the Reckoner, up to the first fault. */
  private static final class Reader {
    private static final int CANT_STAND = 1;
    private static final int WRONG_NUMBER = 2;
    private static final int TOO_DEEP = 3;
    private static final int MOST_OPEN = 8;
    private static final int MOST_NUMBER = 9999;

    int faultKind = 0;
    int faultPlace = NONE;
    private final Scan scan = new Scan();
    private int at = 0;
    // The kind of the token at hand; UNKNOWN behind a fault, so that nothing can stand there any more.
    private int kind = Words.TEXT_END;
    private final int[] code = new int[MOST_BYTES];
    private int codeCount = 0;

    /** Whether the text is without fault; then its tokens and its code can be had. */
    boolean read(char[] text, int length) {
      scan.scan(text, length);
      at = 0;
      kind = scan.kindAt(0);
      faultKind = 0;
      codeCount = 0;
      take(Words.MARKS);
      readSum();
      if (kind == Words.WHEN) {
        step();
        readConditions(0);
      } else {
        emit(1);
      }
      if (kind == Words.UNLESS) {
        step();
        readConditions(0);
      } else {
        emit(0);
      }
      take(';');
      if (kind != Words.TEXT_END) {
        refuse(CANT_STAND);
      }
      // Nothing steps on behind a fault, so that the token at hand is still the one at fault.
      faultPlace = faultKind == 0 ? NONE : scan.placeAt(at);
      return faultKind == 0;
    }

    int[] copyOfTokens() {
      return scan.copyOfTokens();
    }

    int[] copyOfCode() {
      return Arrays.copyOf(code, Math.max(0, codeCount));
    }

    // An 'or' waits until the 'and's behind it are read, as they bind closer.
    private void readConditions(int open) {
      readCondition(open);
      boolean waits = false;
      for (int i = 0; i < MOST_BYTES && (kind == Words.AND || kind == Words.OR); i++) {
        boolean both = kind == Words.AND;
        if (!both && waits) {
          emit(-Words.OR);
        }
        step();
        readCondition(open);
        if (both) {
          emit(-Words.AND);
        }
        waits = waits || !both;
      }
      if (waits) {
        emit(-Words.OR);
      }
    }

    private void readCondition(int open) {
      boolean opens = kind == '(' || kind == Words.NOT;
      if (opens && open >= MOST_OPEN) {
        refuse(TOO_DEEP);
      } else if (kind == '(') {
        step();
        readConditions(open + 1);
        take(')');
      } else if (kind == Words.NOT) {
        step();
        readCondition(open + 1);
        emit(-Words.NOT);
      } else {
        readSum();
        int comparison = kind;
        takeComparison();
        readSum();
        emit(-comparison);
      }
    }

    // A '+' or '-' waits until the '*'s and '/'s behind it are read, as they bind closer.
    private void readSum() {
      int waiting = 0;
      readUnit();
      for (int i = 0; i < MOST_BYTES && Words.isReckoning(kind); i++) {
        int sign = kind;
        boolean closer = sign == '*' || sign == '/';
        if (!closer && waiting != 0) {
          emit(-waiting);
        }
        step();
        if (sign == '/') {
          takeNumber(1, MOST_NUMBER, 0);
        } else {
          readUnit();
        }
        if (closer) {
          emit(-sign);
        } else {
          waiting = sign;
        }
      }
      if (waiting != 0) {
        emit(-waiting);
      }
    }

    private void readUnit() {
      if (kind == Words.LINE) {
        step();
        takeNumber(0, MOST_LINES - 1, Words.LINE_CODE);
      } else if (Words.isFact(kind)) {
        emit(-kind);
        step();
      } else {
        takeNumber(0, MOST_NUMBER, 0);
      }
    }

    private void takeNumber(int least, int greatest, int added) {
      int value = scan.valueAt(at);
      if (kind != Words.NUMBER) {
        refuse(CANT_STAND);
      } else if (value < least || value > greatest) {
        refuse(WRONG_NUMBER);
      } else {
        emit(value + added);
        step();
      }
    }

    private void takeComparison() {
      if (kind == '<' || kind == '=' || kind == '>') {
        step();
      } else {
        refuse(CANT_STAND);
      }
    }

    private void take(int due) {
      if (kind == due) {
        step();
      } else {
        refuse(CANT_STAND);
      }
    }

    private void step() {
      at++;
      kind = at >= 0 && at < scan.count && at < scan.kinds.length ? scan.kinds[at] : Words.TEXT_END;
    }

    private void refuse(int fault) {
      faultKind = faultKind == 0 ? fault : faultKind;
      kind = Words.UNKNOWN;
    }

    private void emit(int step) {
      if (codeCount >= 0 && codeCount < code.length) {
        code[codeCount] = step;
        codeCount++;
      }
    }
  }

  /** Runs the code of wordings for facts; what lesser lines owe is kept from one line to the next. */
  private static final class Reckoner {
    private static final int MOST_MARKS = 9999;
    // Two left sides wait at each of nine depths, a comparison holds four at most, and two clauses lie below.
    private static final int STACK = 32;

    private final int[] facts = new int[Words.FACTS];
    private final int[] owedByLine = new int[MOST_LINES];
    private final int[] stack = new int[STACK];
    private int top = 0;

    /** Keeps the facts for reckon(): false, keeping none, if they can't be. */
    boolean takeFacts(int harm, int witnesses, int years, int kin, int age) {
      if (harm < 0 || harm > 99 || witnesses < 0 || witnesses > 9 || years < 0 || years > 299) {
        return false;
      }
      if (kin < 0 || kin > 1 || age < -99 || age > 299) {
        return false;
      }
      putFact(Words.HARM, harm);
      putFact(Words.WITNESSES, witnesses);
      putFact(Words.YEARS, years);
      putFact(Words.KIN, kin);
      putFact(Words.AGE, age);
      return true;
    }

    /** What line l owes in this wording (null: none); all lesser lines must have been reckoned. */
    void reckon(int l, Wording wording) {
      if (l >= 0 && l < owedByLine.length) {
        owedByLine[l] = wording == null ? 0 : run(wording, l);
      }
    }

    int owedBy(int l) {
      return l >= 0 && l < owedByLine.length ? owedByLine[l] : 0;
    }

    private int run(Wording wording, int l) {
      top = 0;
      for (int i = 0; i < wording.codeLength(); i++) {
        runStep(wording.codeAt(i), l);
      }
      int unless = pop();
      int when = pop();
      int marks = pop();
      return when != 0 && unless == 0 ? Math.max(0, Math.min(MOST_MARKS, marks)) : 0;
    }

    private void runStep(int step, int l) {
      if (step >= Words.LINE_CODE) {
        int n = step - Words.LINE_CODE;
        push(n < l ? owedBy(n) : 0);
      } else if (step >= 0) {
        push(step);
      } else if (Words.isFact(-step)) {
        push(factOf(-step));
      } else if (step == -Words.NOT) {
        push(pop() == 0 ? 1 : 0);
      } else {
        int right = pop();
        int left = pop();
        push(join(-step, left, right));
      }
    }

    private static int join(int kind, int left, int right) {
      switch (kind) {
        case '+': return left + right;
        case '-': return left - right;
        case '*': return left * right;
        case '/': return right != 0 ? left / right : 0;
        case '<': return left < right ? 1 : 0;
        case '=': return left == right ? 1 : 0;
        case '>': return left > right ? 1 : 0;
        case Words.AND: return left & right;
        case Words.OR: return left | right;
        default: return 0;
      }
    }

    private void putFact(int kind, int fact) {
      int i = kind - Words.HARM;
      if (i >= 0 && i < facts.length) {
        facts[i] = fact;
      }
    }

    private int factOf(int kind) {
      int i = kind - Words.HARM;
      return i >= 0 && i < facts.length ? facts[i] : 0;
    }

    private void push(int number) {
      if (top >= 0 && top < stack.length) {
        stack[top] = number;
        top++;
      }
    }

    private int pop() {
      if (top > 0 && top <= stack.length) {
        top--;
        return stack[top];
      }
      return 0;
    }
  }

  /**
   * Finds the best plan from the last person back to the first: for each person and each state of what is wanting
   * (two bits a line) the least cost of what this person and those behind it are taught.
   */
  private static final class Planner {
    private static final int STATES = 1 << 2 * MOST_PLAN_LINES;
    private static final int NO_WAY = 1000;

    private final int[] costs = new int[(MOST_PERSONS + 1) * STATES];
    // 0 where the person can't be taught the line.
    private final int[] prices = new int[MOST_PERSONS * MOST_PLAN_LINES];
    private final int[] lineNumbers = new int[MOST_PLAN_LINES];
    private final int[] lessons = new int[MOST_PERSONS];
    private int personCount = 0;
    private int lineCount = 0;
    private int wanting = 0;

    void begin(int count) {
      personCount = Math.max(0, Math.min(count, MOST_PERSONS));
      lineCount = 0;
      wanting = 0;
      Arrays.fill(prices, 0);
      Arrays.fill(lessons, NONE);
    }

    void addLine(int l, int wanted) {
      if (lineCount >= 0 && lineCount < lineNumbers.length) {
        lineNumbers[lineCount] = l;
        wanting |= (wanted & 3) << 2 * lineCount;
        lineCount++;
      }
    }

    /** What it costs to teach p the line that was added last. */
    void putPrice(int p, int price) {
      int i = p * MOST_PLAN_LINES + lineCount - 1;
      if (i >= 0 && i < prices.length) {
        prices[i] = price;
      }
    }

    void solve() {
      for (int state = 0; state <= wanting; state++) {
        putCost(personCount, state, state == 0 ? 0 : NO_WAY);
      }
      for (int p = personCount - 1; p >= 0; p--) {
        for (int state = 0; state <= wanting; state++) {
          putCost(p, state, leastCost(p, state));
        }
      }
      if (isFound()) {
        giveLessons();
      }
    }

    private int leastCost(int p, int state) {
      int least = costFrom(p + 1, state);
      for (int j = 0; j < lineCount; j++) {
        least = Math.min(least, costWith(p, j, state));
      }
      return least;
    }

    /** The cost if p is taught the j-th line. */
    private int costWith(int p, int j, int state) {
      int i = p * MOST_PLAN_LINES + j;
      int price = i >= 0 && i < prices.length ? prices[i] : 0;
      if (price == 0 || (state >>> 2 * j & 3) == 0) {
        return NO_WAY;
      }
      return Math.min(NO_WAY, price + costFrom(p + 1, state - (1 << 2 * j)));
    }

    // The lesser line is tried first and no lesson last, so that the first plan of the least cost is the best one.
    private void giveLessons() {
      int state = wanting;
      for (int p = 0; p < personCount && p < lessons.length; p++) {
        int chosen = NONE;
        for (int j = lineCount - 1; j >= 0; j--) {
          if (costFrom(p, state) < NO_WAY && costWith(p, j, state) == costFrom(p, state)) {
            chosen = j;
          }
        }
        if (chosen >= 0 && chosen < lineNumbers.length) {
          lessons[p] = lineNumbers[chosen];
          state -= 1 << 2 * chosen;
        }
      }
    }

    private boolean isFound() {
      return costFrom(0, wanting) < NO_WAY;
    }

    int cost() {
      return isFound() ? costFrom(0, wanting) : NONE;
    }

    int teachings() {
      int count = 0;
      for (int p = 0; p < lessons.length; p++) {
        count += lessons[p] != NONE ? 1 : 0;
      }
      return isFound() ? count : NONE;
    }

    int lessonOf(int p) {
      return p >= 0 && p < lessons.length ? lessons[p] : NONE;
    }

    private int costFrom(int p, int state) {
      int i = p * STATES + state;
      return i >= 0 && i < costs.length ? costs[i] : NO_WAY;
    }

    private void putCost(int p, int state, int cost) {
      int i = p * STATES + state;
      if (i >= 0 && i < costs.length) {
        costs[i] = cost;
      }
    }
  }
}
