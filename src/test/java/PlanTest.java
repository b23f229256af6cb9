/** Promises 28 and 29: the loss of lines, and the best plan against it. */
public final class PlanTest {
  private static final Check CHECK = new Check("PlanTest");

  public static void main(String[] args) {
    losses();
    wrongPlans();
    costs();
    order();
    rivals();
    theDead();
    largest();
    CHECK.close();
  }

  /** Persons of these quarters, lines, and one wording. */
  private static LawRock people(int lines, int... quarters) {
    LawRock x = new LawRock();
    Check.wording(x, "marks 1;");
    for (int quarter : quarters) {
      x.person(quarter, 0, -1);
    }
    for (int l = 0; l < lines; l++) {
      x.line(l % 3, false);
    }
    return x;
  }

  private static void planned(LawRock x, int set, int m, int cost, int... lessons) {
    String plan = "plan(" + set + ", " + m + ", ";
    CHECK.due(plan + "0)", x.plan(set, m, 0), cost);
    int teachings = 0;
    for (int p = 0; p < lessons.length; p++) {
      CHECK.due(plan + (10 + p) + ")", x.plan(set, m, 10 + p), lessons[p]);
      teachings += lessons[p] == -1 ? 0 : 1;
    }
    CHECK.due(plan + "1)", x.plan(set, m, 1), cost == -1 ? -1 : teachings);
  }

  private static void losses() {
    LawRock x = people(3, 0, 1, 2);
    x.know(0, 0, 0, 1);
    x.know(1, 0, 0, 1);
    x.know(1, 1, 0, 1);
    CHECK.due("loss of 0", x.loss(1), 2);
    CHECK.due("loss of 1", x.loss(2), 1);
    CHECK.due("loss of 0 and 1", x.loss(3), 1);
    CHECK.due("loss of all", x.loss(7), 0);
    CHECK.due("loss of none", x.loss(0), -1);
    CHECK.due("loss of one that is not there", x.loss(9), -1);
    CHECK.due("loss of one far off", x.loss(1 << 31 | 1), -1);
    x.dies(1);
    CHECK.due("loss of 0 as one died", x.loss(1), 1);
    CHECK.due("loss of 1 as one died", x.loss(2), 0);
    LawRock full = people(24);
    CHECK.due("loss of 24 lines", full.loss(0xffffff), 0);
    CHECK.due("loss of 25 lines", full.loss(0x1ffffff), -1);
  }

  private static void wrongPlans() {
    LawRock x = people(5, 0, 0);
    x.know(0, 0, 0, 1);
    CHECK.due("m 0", x.plan(1, 0, 0), -1);
    CHECK.due("m 4", x.plan(1, 4, 0), -1);
    LawRock many = people(1, 0, 0, 0, 0);
    for (int p = 0; p < 4; p++) {
      many.know(p, 0, 0, 1);
    }
    CHECK.due("m 3 as four have it", many.plan(1, 3, 0), 0);
    CHECK.due("m 4 as four have it", many.plan(1, 4, 0), -1);
    CHECK.due("m -1", many.plan(1, -1, 0), -1);
    CHECK.due("a line that is not there", x.plan(33, 1, 0), -1);
    CHECK.due("a set far off", x.plan(1 << 31, 1, 0), -1);
    CHECK.due("what 2", x.plan(1, 1, 2), -1);
    CHECK.due("what -1", x.plan(1, 1, -1), -1);
    CHECK.due("what 9", x.plan(1, 1, 9), -1);
    CHECK.due("what 12", x.plan(1, 1, 12), -1);
    for (int l = 0; l < 5; l++) {
      x.know(0, l, 0, 1);
    }
    CHECK.due("4 lines", x.plan(15, 1, 0), 0);
    CHECK.due("5 lines", x.plan(31, 1, 0), -1);
    CHECK.due("no lines", x.plan(0, 1, 0), 0);
    planned(x, 1, 2, 1, -1, 0);
    planned(x, 1, 3, -1, -1, -1);
    planned(people(1, 0, 0, 0), 1, 1, -1, -1, -1, -1);
  }

  private static void costs() {
    LawRock x = people(2, 0, 1, 2, 3, 2);
    x.know(2, 0, 0, 1);
    planned(x, 1, 1, 0, -1, -1, -1, -1, -1);
    planned(x, 1, 2, 1, -1, -1, -1, -1, 0);
    planned(x, 1, 3, 4, 0, -1, -1, -1, 0);
    planned(x, 2, 1, -1, -1, -1, -1, -1, -1);
    planned(x, 3, 1, -1, -1, -1, -1, -1, -1);
    x.know(3, 0, 0, 1);
    x.know(4, 0, 0, 1);
    x.know(0, 0, 0, 1);
    planned(x, 1, 3, 0, -1, -1, -1, -1, -1);
  }

  private static void order() {
    LawRock x = people(3, 0, 0, 0, 0, 0);
    x.know(4, 0, 0, 1);
    x.know(4, 1, 0, 1);
    x.know(4, 2, 0, 1);
    planned(x, 6, 2, 2, 1, 2, -1, -1, -1);
    planned(x, 7, 2, 3, 0, 1, 2, -1, -1);
    planned(x, 3, 3, 4, 0, 0, 1, 1, -1);
    planned(x, 7, 3, -1, -1, -1, -1, -1, -1);
    x.know(0, 0, 0, 1);
    planned(x, 3, 3, 3, 1, 0, 1, -1, -1);
    planned(x, 7, 3, -1, -1, -1, -1, -1, -1);
    LawRock y = people(1, 1, 0, 1, 0);
    y.know(3, 0, 0, 1);
    planned(y, 1, 2, 1, -1, 0, -1, -1);
    planned(y, 1, 3, 4, 0, 0, -1, -1);
  }

  private static void rivals() {
    LawRock x = people(2, 0, 1, 0, 1);
    x.know(0, 0, 0, 1);
    x.know(1, 0, 0, 1);
    x.know(1, 1, 0, 1);
    planned(x, 3, 2, 1, -1, -1, -1, 1);
    planned(x, 3, 3, -1 + 1 + 1 + 3 + 1, 1, -1, 0, 1);
    LawRock y = people(2, 0, 0, 1);
    y.know(2, 0, 0, 1);
    y.know(0, 1, 0, 1);
    planned(y, 3, 2, 4, 0, 1, -1);
  }

  private static void theDead() {
    LawRock x = people(1, 0, 0, 0, 0, 1);
    x.know(0, 0, 0, 1);
    x.know(4, 0, 0, 1);
    x.dies(0);
    x.dies(1);
    planned(x, 1, 2, 3, -1, -1, 0, -1, -1);
    x.dies(4);
    planned(x, 1, 1, -1, -1, -1, -1, -1, -1);
    LawRock y = people(2, 0, 0);
    y.know(0, 0, 0, 1);
    y.know(0, 1, 0, 1);
    y.teach(0, 1, 0);
    planned(y, 2, 2, 1, -1, 1);
  }

  private static void largest() {
    int[] quarters = new int[24];
    for (int p = 0; p < 24; p++) {
      quarters[p] = p / 6;
    }
    LawRock x = people(24, quarters);
    x.know(23, 20, 0, 1);
    x.know(23, 21, 0, 1);
    x.know(23, 22, 0, 1);
    x.know(23, 23, 0, 1);
    CHECK.due("largest cost", x.plan(0xf00000, 3, 0), 5 + 3 * 3);
    CHECK.due("largest teachings", x.plan(0xf00000, 3, 1), 8);
    int[] due = {20, 20, 21, -1, -1, -1, -1, -1, -1, -1, -1, -1, -1, -1, -1, -1, -1, -1, 21, 22, 22, 23, 23, -1};
    for (int p = 0; p < 24; p++) {
      CHECK.due("largest " + p, x.plan(0xf00000, 3, 10 + p), due[p]);
    }
    CHECK.due("largest 24", x.plan(0xf00000, 3, 34), -1);
  }
}
