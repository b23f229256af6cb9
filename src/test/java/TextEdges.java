/** The edges that the terms name of texts: what may stand, tokens, ints, faults. */
final class TextEdges {
  private TextEdges() {
  }

  static void test(Sentences s) {
    s.in("Terms");
    s.test("WORDINGS 0 .. 31 are", TextEdges::wordings);
    s.test("TEXTS = marks E [when B] [unless B] ;.", TextEdges::texts);
    s.test("B = A {or A}.", TextEdges::ors);
    s.test("A = C {and C}.", TextEdges::ands);
    s.test("C = E (< | = | >) E | not C | ( B ).", TextEdges::conditions);
    s.test("E = T {(+ | -) T}.", TextEdges::sums);
    s.test("T = U {* U | / NUMBER}.", TextEdges::products);
    s.test("U = NUMBER | harm | witnesses | years | kin | age | line N.", TextEdges::units);
    s.test("(N: a LINE 0 .. 23.)", TextEdges::lineNumbers);
    s.test("TOKENS: letters as many as stand together are KEYWORDS (those told here) or none", TextEdges::letters);
    s.test("digits as many as stand together NUMBERS of 1 to 4 digits or none", TextEdges::digits);
    s.test("; + - * / ( ) < = > .", TextEdges::signs);
    s.test("Blanks (32, 10) between.", TextEdges::blanks);
    s.test("Ints, which wrap", TextEdges::wrapping);
    s.test("/ goes towards 0.", TextEdges::towardsZero);
    s.test("FAULTS, the first by its place", TextEdges::firstFaults);
    s.test("at one place the least", TextEdges::leastFaults);
    s.test("1 what can't stand there", TextEdges::whatCantStand);
    s.test("(the end: the text's length", TextEdges::ends);
    s.test("anything behind the ;).", TextEdges::behind);
    s.test("2 (at the NUMBER) a LINE above 23", TextEdges::linesAbove);
    s.test("a part by 0.", TextEdges::partsByZero);
    s.test("3 (at it) the 9th ( or not that is open.", TextEdges::ninthOpen);
  }

  /** Texts without a fault. */
  private static void sound(Check c, String... texts) {
    for (String text : texts) {
      c.fault(text, 0, -1);
    }
  }

  private static void wordings(Check c) {
    LawRock x = new LawRock();
    for (int w = 0; w <= 31; w++) {
      c.due("wording", Check.wording(x, "marks " + w * 7 + ";"), w);
    }
    c.due("the 33rd", Check.wording(x, "marks 1;"), -1);
    c.due("WORDINGS", x.look(5), 32);
    x.line(0, false);
    c.due("book(0, 31)", x.book(0, 31), true);
    c.due("the last one's text", x.byBook(0, 0, 0, 0, 0, 0), 217);
    c.due("book(0, 32)", x.book(0, 32), false);
  }

  private static void texts(Check c) {
    sound(c, "marks 1;", "marks 1 when 1=1;", "marks 1 unless 1=1;", "marks 1 when 1=1 unless 1=1;");
    c.fault("marks;", 1, 5);
    c.fault("1;", 1, 0);
    c.fault("marks 1 when;", 1, 12);
    c.fault("marks 1 unless;", 1, 14);
    c.fault("marks 1 unless 1=1 when 1=1;", 1, 19);
    c.fault("marks 1 when 1=1 when 1=1;", 1, 17);
    c.fault("marks 1 unless 1=1 unless 1=1;", 1, 19);
    c.fault("marks when 1=1;", 1, 6);
    c.fault("marks marks 1;", 1, 6);
  }

  private static void ors(Check c) {
    sound(c, "marks 1 when 1=1 or 1=1;", "marks 1 when 1=1 or 1=1 or 1=1 and 1=1 or 1=1;");
    c.fault("marks 1 when or 1=1;", 1, 13);
    c.fault("marks 1 when 1=1 or;", 1, 19);
    c.fault("marks 1 when 1=1 or or 1=1;", 1, 20);
    c.due("and before or", Scene.byBook(0, 0, 0, "marks 6 when 1=1 or 1=1 and 1=2;"), 6);
    c.due("the first of three alone", Scene.byBook(0, 0, 0, "marks 6 when 1=1 or 1=2 or 1=2;"), 6);
    c.due("the last of three alone", Scene.byBook(0, 0, 0, "marks 6 when 1=2 or 1=2 or 1=1;"), 6);
    c.due("none of three", Scene.byBook(0, 0, 0, "marks 6 when 1=2 or 1=2 or 1=2;"), 0);
  }

  private static void ands(Check c) {
    sound(c, "marks 1 when 1=1 and 1=1;", "marks 1 when 1=1 and 1=1 and 1=1;");
    c.fault("marks 1 when and 1=1;", 1, 13);
    c.fault("marks 1 when 1=1 and;", 1, 20);
    c.fault("marks 1 when 1=1 and and 1=1;", 1, 21);
    c.due("all of three", Scene.byBook(0, 0, 0, "marks 6 when 1=1 and 1=1 and 1=1;"), 6);
    c.due("not the first", Scene.byBook(0, 0, 0, "marks 6 when 1=2 and 1=1 and 1=1;"), 0);
    c.due("not the last", Scene.byBook(0, 0, 0, "marks 6 when 1=1 and 1=1 and 1=2;"), 0);
  }

  private static void conditions(Check c) {
    sound(c, "marks 1 when 1<1;", "marks 1 when 1=1;", "marks 1 when 1>1;", "marks 1 when not 1=1;", "marks 1 when (1=1);",
        "marks 1 when not (1=1 or 1=1) and (not 1=1);");
    c.fault("marks 1 when 1;", 1, 14);
    c.fault("marks 1 when 1=;", 1, 15);
    c.fault("marks 1 when =1;", 1, 13);
    c.fault("marks 1 when 1=1=1;", 1, 16);
    c.fault("marks 1 when 1<=1;", 1, 15);
    c.fault("marks 1 when not;", 1, 16);
    c.fault("marks 1 when ();", 1, 14);
    c.fault("marks 1 when (1=1;", 1, 17);
    c.fault("marks 1 when 1=1);", 1, 16);
    c.fault("marks 1 when (1)=1;", 1, 15);
    c.fault("marks 1 when 1=(1);", 1, 15);
    c.fault("marks 1 when 1=not 1;", 1, 15);
    c.fault("marks 1 when 1 1;", 1, 15);
    c.fault("marks 1 when 1+1 harm;", 1, 17);
    int[] due = {5, 0, 0, 0, 5, 0, 0, 0, 5};
    for (int i = 0; i < due.length; i++) {
      String text = "marks 5 when " + (i % 3 + 1) + "<=>".charAt(i / 3) + "2;";
      c.due(text, Scene.byBook(0, 0, 0, text), due[i]);
    }
    c.due("not of what is not so", Scene.byBook(0, 0, 0, "marks 5 when not 1=2;"), 5);
    c.due("not of what is so", Scene.byBook(0, 0, 0, "marks 5 when not 1=1;"), 0);
    c.due("not not", Scene.byBook(0, 0, 0, "marks 5 when not not 1=1;"), 5);
    c.due("not of what stands in ( )", Scene.byBook(0, 0, 0, "marks 5 when not (1=2 and 1=2);"), 5);
    c.due("not is for the next alone", Scene.byBook(0, 0, 0, "marks 5 when not 1=2 and 1=2;"), 0);
  }

  private static void sums(Check c) {
    sound(c, "marks 1+1;", "marks 1-1;", "marks 1+1-1+1;");
    c.fault("marks +1;", 1, 6);
    c.fault("marks -1;", 1, 6);
    c.fault("marks 1+;", 1, 8);
    c.fault("marks 1+-1;", 1, 8);
    c.fault("marks (1+1);", 1, 6);
    c.due("from the left", Scene.byBook(0, 0, 0, "marks 10-3-2+1;"), 6);
    c.due("* before -", Scene.byBook(0, 0, 0, "marks 10-2*3;"), 4);
  }

  private static void products(Check c) {
    sound(c, "marks 1*1;", "marks 1*harm*line 2;", "marks harm/1;", "marks 1/9999;");
    c.fault("marks *1;", 1, 6);
    c.fault("marks 1*;", 1, 8);
    c.fault("marks 1/;", 1, 8);
    c.fault("marks 1/harm;", 1, 8);
    c.fault("marks 1/line 1;", 1, 8);
    c.fault("marks 1*/1;", 1, 8);
    c.due("from the left", Scene.byBook(0, 0, 0, "marks 7/2*2;"), 6);
    c.due("a part by 1", Scene.byBook(0, 7, 0, "marks harm/1;"), 7);
    c.due("a part by 9999", Scene.byBook(0, 7, 0, "marks 9999*harm/9999;"), 7);
    c.due("from the left", Scene.byBook(0, 0, 0, "marks 7*2/2/2;"), 3);
  }

  private static void units(Check c) {
    sound(c, "marks 7;", "marks harm;", "marks witnesses;", "marks years;", "marks kin;", "marks age;", "marks line 7;");
    c.fault("marks line;", 1, 10);
    c.fault("marks line harm;", 1, 11);
    c.fault("marks line line 1;", 1, 11);
    c.fault("marks harm harm;", 1, 11);
    c.fault("marks when;", 1, 6);
    c.fault("marks not;", 1, 6);
  }

  private static void lineNumbers(Check c) {
    sound(c, "marks line 0;", "marks line 23;", "marks line 0023;", "marks line 00;");
    c.fault("marks line 24;", 2, 11);
    c.fault("marks line -1;", 1, 11);
    c.due("a LINE that is not there", Scene.byBook(0, 9, 0, "marks line 23 + 4;"), 4);
  }

  private static void letters(Check c) {
    sound(c, "marks1when1=1unless1=1;", "marks harm+age when(not 1=1)and 1=1;");
    String[] keywords = {"marks", "when", "unless", "or", "and", "not", "harm", "witnesses", "years", "kin", "age", "line"};
    for (String keyword : keywords) {
      c.fault("marks 1+" + keyword + "x 1;", 1, 8);
      c.fault("marks 1+" + keyword.substring(1) + " 1;", 1, 8);
      c.fault("marks 1+" + keyword.substring(0, keyword.length() - 1) + " 1;", 1, 8);
      c.fault("marks 1+" + keyword.toUpperCase() + " 1;", 1, 8);
    }
    c.fault("marks harmage;", 1, 6);
    c.fault("marks ha rm;", 1, 6);
    c.fault("mark s 1;", 1, 0);
    c.fault("Marks 1;", 1, 0);
    c.fault("marksz 1;", 1, 0);
    c.fault("marksA 1;", 1, 0);
    c.fault("marksZ 1;", 1, 0);
    c.fault("marks1a;", 1, 6);
  }

  private static void digits(Check c) {
    sound(c, "marks 0;", "marks 9;", "marks 0000;", "marks 9999;");
    c.fault("marks 10000;", 1, 6);
    c.fault("marks 00000;", 1, 6);
    c.fault("marks 99999999999999999999;", 1, 6);
    c.fault("marks 1 2;", 1, 8);
    c.fault("marks line 00001;", 1, 11);
    c.fault("marks 1/00001;", 1, 8);
    c.due("4 digits", Scene.byBook(0, 0, 0, "marks 9876;"), 9876);
    c.due("digits ahead of which 0 stands", Scene.byBook(0, 0, 0, "marks 0012;"), 12);
  }

  private static void signs(Check c) {
    sound(c, "marks 1+1-1*1/1 when (1<1 or 1=1 or 1>1);");
    for (int sign = 0; sign < 256; sign++) {
      boolean stands = sign >= '0' && sign <= '9' || sign == ' ' || sign == '\n' || sign == ';';
      if (!stands) {
        c.fault("marks 1" + (char) sign + ";", 1, "+-*/".indexOf(sign) >= 0 ? 8 : 7);
        c.fault("marks " + (char) sign + ";", 1, 6);
        c.fault((char) sign + ";", 1, 0);
      }
    }
  }

  private static void blanks(Check c) {
    sound(c, "marks 1 ;", "marks\n1\n;", "marks \n \n 1;", "marks 1 when 1 = 1 or ( not 1 < 2 ) ;", "marks 1+\n2;");
    for (int sign : new int[] {0, 9, 11, 12, 13, 31, 33, 127, 128, 160, 255}) {
      c.fault("marks" + (char) sign + "1;", 1, 5);
    }
    c.fault("marks 1 0;", 1, 8);
    c.fault("marks 1 when 1< =1;", 1, 16);
  }

  private static void wrapping(Check c) {
    String top = "8192*8192*31+8192*8192-1";
    c.due("the greatest int", Scene.byBook(0, 0, 0, "marks 1 when " + top + ">0;"), 1);
    c.due("one more is below 0", Scene.byBook(0, 0, 0, "marks 1 when " + top + "+1<0;"), 1);
    c.due("the least less 1 is above 0", Scene.byBook(0, 0, 0, "marks 1 when " + top + "+1-1>0;"), 1);
    c.due("0 less the least is the least", Scene.byBook(0, 0, 0, "marks 1 when 0-8192*8192*32<0;"), 1);
    c.due("a product of 2 to the 31", Scene.byBook(0, 0, 0, "marks 1 when 8192*8192*32<0;"), 1);
    c.due("a product of 2 to the 32", Scene.byBook(0, 0, 0, "marks 8192*8192*64+3;"), 3);
    c.due("9999 three times", Scene.byBook(0, 0, 0, "marks 9999*9999*9999/9999+9999*10+2760;"), 5);
    c.due("a wrapped one is parted as it is", Scene.byBook(0, 0, 0, "marks 8192*8192*32/8192+9999*27;"), 7829);
  }

  private static void towardsZero(Check c) {
    int[][] cases = {{-7, 7}, {-1, 10}, {-2, 9}, {-3, 9}, {0, 10}, {1, 10}, {3, 11}, {-99, 0}};
    for (int[] one : cases) {
      c.due("10 and the half of " + one[0], Scene.byBook(0, 0, one[0], "marks 10+age/2;"), one[1]);
    }
  }

  private static void firstFaults(Check c) {
    c.fault("marks 1/0 %;", 2, 8);
    c.fault("marks % 1/0;", 1, 6);
    c.fault("marks line 24/0;", 2, 11);
    c.fault("marks 1 when line 24=1 or (((((((((1=1)))))))));", 2, 18);
    c.fault("marks 1 when (((((((((1=line 24)))))))));", 3, 21);
    c.fault("marks 1 when (((((((((%", 3, 21);
    c.fault("% marks", 1, 0);
  }

  private static void leastFaults(Check c) {
    c.fault("marks line 99999;", 1, 11);
    c.fault("marks 1/00000;", 1, 8);
    c.fault("marks 1 when ((((((((1(", 1, 22);
    c.fault("marks 1 when ((((((((1 not 1=1", 1, 23);
    c.fault("marks 1 when 1=1 24;", 1, 17);
  }

  private static void whatCantStand(Check c) {
    c.fault(";", 1, 0);
    c.fault("harm;", 1, 0);
    c.fault("marks 1 harm;", 1, 8);
    c.fault("marks 1 or 1;", 1, 8);
    c.fault("marks )", 1, 6);
    c.fault("marks 1 when 1=1 1=1;", 1, 17);
    c.fault("marks 1 when 1=1 not 1=1;", 1, 17);
    c.fault("marks 1 % 2;", 1, 8);
  }

  private static void ends(Check c) {
    String text = "marks 1+line 2*3/4 when not (1=1 and 2<3) unless 4>5;";
    int[] ends = {0, 5, 6, 7, 8, 13, 15, 17, 18, 28, 29, 41, 42, text.length() - 1};
    for (int end : ends) {
      c.fault(text.substring(0, end), 1, end);
    }
    c.fault("  \n", 1, 3);
    c.fault("marks 1  ", 1, 9);
    c.fault("marks " + "1+".repeat(197), 1, 400);
    c.fault("marks " + "1+".repeat(195) + "harm", 1, 400);
    c.fault("marks " + "1+".repeat(195) + "1234", 1, 400);
  }

  private static void behind(Check c) {
    c.fault("marks 1;;", 1, 8);
    c.fault("marks 1;1", 1, 8);
    c.fault("marks 1;marks 1;", 1, 8);
    c.fault("marks 1; \nkin", 1, 10);
    c.fault("marks 1;%", 1, 8);
    c.fault("marks 1;" + (char) 0, 1, 8);
    c.fault("marks 1 when 1=1;)", 1, 17);
    for (int sign = 0; sign < 256; sign++) {
      if (sign != ' ' && sign != '\n') {
        c.fault("marks 1;" + (char) sign, 1, 8);
      }
    }
  }

  private static void linesAbove(Check c) {
    c.fault("marks line 24;", 2, 11);
    c.fault("marks line\n  25;", 2, 13);
    c.fault("marks line 0024;", 2, 11);
    c.fault("marks line 9999;", 2, 11);
    c.fault("marks 1 when line 24=1;", 2, 18);
    c.fault("marks 1 unless 1=line 24;", 2, 22);
    c.fault("marks line 23;", 0, -1);
    c.fault("marks 24;", 0, -1);
  }

  private static void partsByZero(Check c) {
    c.fault("marks 1/0;", 2, 8);
    c.fault("marks 1/\n0000;", 2, 9);
    c.fault("marks harm*2/0;", 2, 13);
    c.fault("marks 1 when 1=1/0;", 2, 17);
    c.fault("marks 1/1;", 0, -1);
    c.fault("marks 0/1;", 0, -1);
    c.fault("marks 1*0;", 0, -1);
  }

  private static void ninthOpen(Check c) {
    sound(c, "marks 1 when ((((((((1=1))))))));", "marks 1 when not not not not not not not not 1=1;",
        "marks 1 when not(not(not(not(1=1))));", "marks 1 when ((((((((1=1)))))))) or ((((((((1=1)))))))) unless ((((((((1=1))))))));",
        "marks 1 when not not not not not not not not 1=1 and not not not not not not not not 1=1;",
        "marks 1 when (((((((1=1 or (1=1)) and (1=1))))))) or (not 1=1);");
    c.fault("marks 1 when (((((((((1=1)))))))));", 3, 21);
    c.fault("marks 1 unless (((((((((1=1)))))))));", 3, 23);
    c.fault("marks 1 when not not not not not not not not not 1=1;", 3, 45);
    c.fault("marks 1 when not(not(not(not((1=1)))));", 3, 29);
    c.fault("marks 1 when (not(not(not(not not 1=1))));", 3, 30);
    c.fault("marks 1 when ((((((((1=1 or 1=1 and not 1=1))))))));", 3, 36);
    c.fault("marks 1 when ((((((((1=1)))))))) or (((((((((", 3, 44);
    c.fault("marks 1 when (((((((((", 3, 21);
  }
}
