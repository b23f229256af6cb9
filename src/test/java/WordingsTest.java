/** Promises 9 to 12, 26 and 27: the tape, texts and their faults, far and trees. */
public final class WordingsTest {
  private static final Check CHECK = new Check("WordingsTest");
  private static final int BLANKS = 0x20202020;

  public static void main(String[] args) {
    tape();
    wordings();
    mostWordings();
    cutTexts();
    soundTexts();
    endFaults();
    signFaults();
    numberFaults();
    depthFaults();
    distances();
    trees();
    widestTree();
    CHECK.close();
  }

  private static void tape() {
    LawRock x = new LawRock();
    for (int n = 20; n <= 400; n += 20) {
      CHECK.due("feed to " + n, x.feed(BLANKS, BLANKS, BLANKS, BLANKS, BLANKS), n);
    }
    CHECK.due("feed beyond 400", x.feed(0, 0, 0, 0, 0), -1);
    CHECK.due("end(401)", x.end(401), false);
    CHECK.due("end(-1)", x.end(-1), false);
    CHECK.due("end(400)", x.end(400), true);
    CHECK.due("end(381)", x.end(381), true);
    CHECK.due("feed at 381", x.feed(0, 0, 0, 0, 0), -1);
    CHECK.due("end(382) is not there any more", x.end(382), false);
    CHECK.due("end(380)", x.end(380), true);
    CHECK.due("feed at 380", x.feed(BLANKS, BLANKS, BLANKS, BLANKS, BLANKS), 400);
    CHECK.due("end(0)", x.end(0), true);
    CHECK.due("feed anew", x.feed(0x6d61726b, 0x73203120, 0x2b203220, 0x2a203320, 0x3b202020), 20);
    CHECK.due("end(17)", x.end(17), true);
    CHECK.due("the bytes stand highest first", x.wording(), 0);
    x.line(0, false);
    x.book(0, 0);
    CHECK.due("and tell what they should", x.byBook(0, 0, 0, 0, 0, 0), 7);
  }

  private static void wordings() {
    LawRock x = new LawRock();
    CHECK.due("wording of the empty tape", x.wording(), -1);
    CHECK.due("its fault", x.fault(0), 1);
    CHECK.due("its place", x.fault(1), 0);
    CHECK.due("first wording", Check.wording(x, "marks 1;"), 0);
    CHECK.due("no fault", x.fault(0), 0);
    CHECK.due("no place", x.fault(1), -1);
    CHECK.due("fault(2)", x.fault(2), -1);
    CHECK.due("fault(-1)", x.fault(-1), -1);
    CHECK.due("the tape is empty then", x.end(1), false);
    CHECK.due("a fault", Check.wording(x, "marks;"), -1);
    CHECK.due("fault(0)", x.fault(0), 1);
    CHECK.due("fault(1)", x.fault(1), 5);
    CHECK.due("fault(2) of a fault", x.fault(2), -1);
    CHECK.due("the tape is empty behind a fault too", x.end(1), false);
    CHECK.due("none came", x.look(5), 1);
    CHECK.due("second wording", Check.wording(x, "marks 1;"), 1);
  }

  private static void mostWordings() {
    LawRock x = new LawRock();
    for (int w = 0; w < 32; w++) {
      CHECK.due("wording " + w, Check.wording(x, "marks " + w + ";"), w);
    }
    CHECK.due("a fault's kind before", x.fault(0), 0);
    CHECK.due("wording 32", Check.wording(x, "marks 1;"), -1);
    CHECK.due("fault(0) of 32", x.fault(0), 0);
    CHECK.due("fault(1) of 32", x.fault(1), -1);
    CHECK.due("wording 32 with a fault", Check.wording(x, "%"), -1);
    CHECK.due("fault(0) of 32 with a fault", x.fault(0), 0);
    CHECK.due("look(5)", x.look(5), 32);
    CHECK.due("far(0, 31)", x.far(0, 31), 1);
    CHECK.due("tree with the 32nd", x.tree(1 << 31 | 1, 0), 1);
    CHECK.due("tree from which the 32nd", x.tree(1 << 31 | 1, 41), 0);
    CHECK.due("tree of 32 is too many", x.tree(-1, 0), -1);
  }

  private static void cutTexts() {
    LawRock x = new LawRock();
    Check.feed(x, "marks 12345;");
    CHECK.due("end(10)", x.end(10), true);
    CHECK.due("a text cut within its digits", x.wording(), -1);
    CHECK.due("its place is the end", x.fault(1), 10);
    Check.feed(x, "marks 1 when kin=1;");
    x.end(10);
    CHECK.due("a text cut within its letters", x.wording(), -1);
    CHECK.due("its place is theirs", x.fault(1), 8);
    Check.feed(x, "marks 1;%");
    x.end(8);
    CHECK.due("what was cut off does not count", x.wording(), 0);
  }

  private static void soundTexts() {
    String[] sound = {"marks 0;", "marks1;", "marks\n1\n;", "marks harm+witnesses-years*kin/1;", "marks age;", "marks line 23;",
        "marks line 0023/9999;", "marks 9999;", "marks 0000;", "marks 1 when 1=1;", "marks 1 unless 1<2;",
        "marks 1 when 1>2 unless(1=1);", "marks 1 when not not 1=1 and 2=2 or 3=3;", "marks 1 when not(harm=1)and not kin=1;",
        "marks 1 when((((((((1=1))))))));", "marks 1 when not not not not not not not not 1=1;",
        "marks 1 when ((((1=1)))) and not not not not (((( 1=1 ))));"};
    for (String text : sound) {
      CHECK.fault(text, 0, -1);
    }
  }

  private static void endFaults() {
    CHECK.fault("", 1, 0);
    CHECK.fault("marks", 1, 5);
    CHECK.fault("marks 1", 1, 7);
    CHECK.fault("marks 1 \n ", 1, 10);
    CHECK.fault("marks 1 when", 1, 12);
    CHECK.fault("marks 1 when (1=1", 1, 17);
    CHECK.fault("marks 1;;", 1, 8);
    CHECK.fault("marks 1; marks", 1, 9);
    CHECK.fault("marks 1;%", 1, 8);
  }

  private static void signFaults() {
    CHECK.fault("1;", 1, 0);
    CHECK.fault("harm;", 1, 0);
    CHECK.fault("Marks 1;", 1, 0);
    CHECK.fault("markss 1;", 1, 0);
    CHECK.fault("marksX 1;", 1, 0);
    CHECK.fault("marks1x;", 1, 6);
    for (char letter : new char[] {'a', 'z', 'A', 'Z'}) {
      CHECK.fault("marks" + letter + " 1;", 1, 0);
    }
    for (char sign : new char[] {'@', '[', '`', '{', '/', ':', 0, 11, 31, 127, 255}) {
      CHECK.fault("marks" + sign + " 1;", 1, 5);
    }
    CHECK.fault("marks 1 2;", 1, 8);
    CHECK.fault("marks +1;", 1, 6);
    CHECK.fault("marks (1);", 1, 6);
    CHECK.fault("marks 1+;", 1, 8);
    CHECK.fault("marks 1+not;", 1, 8);
    CHECK.fault("marks line harm;", 1, 11);
    CHECK.fault("marks 1/harm;", 1, 8);
    CHECK.fault("marks 1/line 1;", 1, 8);
    CHECK.fault("marks 1*/2;", 1, 8);
    CHECK.fault("marks 1\t;", 1, 7);
    CHECK.fault("marks 1\r;", 1, 7);
    CHECK.fault("marks 1" + (char) 233 + ";", 1, 7);
    CHECK.fault("marks 1 when;", 1, 12);
    CHECK.fault("marks 1 when 1;", 1, 14);
    CHECK.fault("marks 1 when 1==1;", 1, 15);
    CHECK.fault("marks 1 when 1=1=1;", 1, 16);
    CHECK.fault("marks 1 when 1=1 not 1=1;", 1, 17);
    CHECK.fault("marks 1 when (1)=1;", 1, 15);
    CHECK.fault("marks 1 when (1=1;", 1, 17);
    CHECK.fault("marks 1 when 1=1);", 1, 16);
    CHECK.fault("marks 1 when ();", 1, 14);
    CHECK.fault("marks 1 when 1=1 or;", 1, 19);
    CHECK.fault("marks 1 when 1=1 and or 1=1;", 1, 21);
    CHECK.fault("marks 1 when 1=1 when 1=1;", 1, 17);
    CHECK.fault("marks 1 unless 1=1 when 1=1;", 1, 19);
    CHECK.fault("marks 1 unless 1=1 unless 1=1;", 1, 19);
    CHECK.fault("marks 1 and 1=1;", 1, 8);
  }

  private static void numberFaults() {
    CHECK.fault("marks 12345;", 1, 6);
    CHECK.fault("marks 00001;", 1, 6);
    CHECK.fault("marks line 24;", 2, 11);
    CHECK.fault("marks line 0024;", 2, 11);
    CHECK.fault("marks line 9999;", 2, 11);
    CHECK.fault("marks line 00001;", 1, 11);
    CHECK.fault("marks 1/0;", 2, 8);
    CHECK.fault("marks 1/ 0000;", 2, 9);
    CHECK.fault("marks 1/00000;", 1, 8);
    CHECK.fault("marks 1*0;", 0, -1);
    CHECK.fault("marks 1/0 %", 2, 8);
    CHECK.fault("marks % 1/0;", 1, 6);
    CHECK.fault("marks 1 when line 24=1;", 2, 18);
    CHECK.fault("marks 1 unless 1/0=1;", 2, 17);
  }

  private static void depthFaults() {
    CHECK.fault("marks 1 when (((((((((1=1)))))))));", 3, 21);
    CHECK.fault("marks 1 when (((((((( not 1=1))))))));", 3, 22);
    CHECK.fault("marks 1 when not not not not not not not not not 1=1;", 3, 45);
    CHECK.fault("marks 1 when not not not not not not not not (1=1);", 3, 45);
    CHECK.fault("marks 1 when not(not(not(not((1=1)))));", 3, 29);
    CHECK.fault("marks 1 when ((((((((1=1)))))))) or (((((((((1=1)))))))));", 3, 44);
    CHECK.fault("marks 1 unless (((((((((1=1)))))))));", 3, 23);
    CHECK.fault("marks 1 when ((((((((1(", 1, 22);
    CHECK.fault("marks ((((((((((", 1, 6);
  }

  private static void distances() {
    LawRock x = new LawRock();
    String[] texts = {"marks 7;", "marks  007 ;", "marks harm*7;", "marks 8 when kin=1;", "marks 7 unless kin=1;",
        "marks 1+2+3+4+5;", "marks 2+3+4+5+1;"};
    for (String text : texts) {
      Check.wording(x, text);
    }
    CHECK.due("a number as its value", x.far(0, 1), 0);
    CHECK.due("two put in", x.far(0, 2), 2);
    CHECK.due("two taken out", x.far(2, 0), 2);
    CHECK.due("one changed, four put in", x.far(0, 3), 5);
    CHECK.due("when changed for unless, 8 for 7", x.far(3, 4), 2);
    CHECK.due("a part that wandered", x.far(5, 6), 4);
    CHECK.due("itself", x.far(5, 5), 0);
    CHECK.due("asked again", x.far(6, 5), 4);
    CHECK.due("far(-1, 0)", x.far(-1, 0), -1);
    CHECK.due("far(0, 7)", x.far(0, 7), -1);
    CHECK.due("far(7, 7)", x.far(7, 7), -1);
    LawRock y = new LawRock();
    Check.wording(y, "marks " + "1+".repeat(196) + "2;");
    Check.wording(y, "marks " + "3-".repeat(196) + "4;");
    CHECK.due("the longest texts", y.far(0, 1), 393);
  }

  private static void trees() {
    LawRock x = new LawRock();
    String[] texts = {"marks 1;", "marks 1+1+1+1;", "marks 1+1;", "marks 1+1+1;", "marks 2;", "marks 1+1+2;", "marks 1+2;"};
    for (String text : texts) {
      Check.wording(x, text);
    }
    CHECK.due("chain cost", x.tree(15, 0), 6);
    CHECK.due("chain first", x.tree(15, 10), -1);
    CHECK.due("chain 1 from 3", x.tree(15, 11), 3);
    CHECK.due("chain 2 from 0", x.tree(15, 12), 0);
    CHECK.due("chain 3 from 2", x.tree(15, 13), 2);
    CHECK.due("of one not in the set", x.tree(15, 14), -1);
    CHECK.due("another what", x.tree(15, 1), -1);
    CHECK.due("another what 9", x.tree(15, 9), -1);
    CHECK.due("what -1", x.tree(15, -1), -1);
    CHECK.due("what 42", x.tree(15, 42), -1);
    CHECK.due("begun with the least", x.tree(12, 12), -1);
    CHECK.due("its other", x.tree(12, 13), 2);
    CHECK.due("6 is as far from 0 as from 4, and the least counts", x.tree(1 | 16 | 64, 16), 0);
    CHECK.due("cost", x.tree(1 | 16 | 64, 0), 3);
    CHECK.due("3 and 5 both 2 from 2, 5 then 1 from 3", x.tree(4 | 8 | 32, 15), 3);
    CHECK.due("3 from 2", x.tree(4 | 8 | 32, 13), 2);
    CHECK.due("a set of one", x.tree(8, 0), -1);
    CHECK.due("the empty set", x.tree(0, 0), -1);
    CHECK.due("one that is not there", x.tree(1 | 128, 0), -1);
    CHECK.due("one far off", x.tree(1 | 1 << 31, 0), -1);
  }

  private static void widestTree() {
    LawRock x = new LawRock();
    for (int w = 0; w < 9; w++) {
      Check.wording(x, "marks " + w + ";");
    }
    CHECK.due("tree of 8", x.tree(255, 0), 7);
    CHECK.due("tree of 8, from the least", x.tree(255, 17), 0);
    CHECK.due("tree of 9", x.tree(511, 0), -1);
    CHECK.due("tree of 9, from", x.tree(511, 11), -1);
  }
}
