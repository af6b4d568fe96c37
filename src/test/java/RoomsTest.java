/** Promises 29 to 32: tips, work, two guests out at once, two who choose. */
public final class RoomsTest {
  public static void main(String[] args) {
    tips();
    dearest();
    overlap();
    two();
    Check.end("RoomsTest");
  }

  private static void tipsAre(String text, int all, int one, int differ) {
    BackFromBreakfast x = Check.told(text);
    Check.due(text + " tips(0)", x.tips(0), all);
    Check.due(text + " tips(1)", x.tips(1), one);
    Check.due(text + " tips(2)", x.tips(2), differ);
  }

  private static void tips() {
    BackFromBreakfast x = new BackFromBreakfast();
    Check.due("no rooms, tips(0)", x.tips(0), 0);
    Check.due("no rooms, tips(1)", x.tips(1), 0);
    Check.due("no rooms, tips(2)", x.tips(2), 0);
    tipsAre("rr3;rr4;rr7;", 0, 0, 0);
    tipsAre("rr3;rr4;rr7;d0;d1;d2;", 14, 3, 0);
    tipsAre("rr7;rr4;rr3;d0;d1;d2;", 14, 1, 0);
    tipsAre("rr9;rr3;d1;", 3, 0, 3);
    tipsAre("rr9;rr0;rr9;d0;d1;d2;", 18, 1, 0);
    tipsAre("rr2;ra9;rp0;rb0;ru5;d4;d3;d2;d1;d0;", 2 + 18 + 1 + 3 + 5, 2, 7);
    // 5 and 6 of 11: the lesser or the greater, by bits
    tipsAre("rr6;rr5;d0;d1;", 11, 1, 1);
    tipsAre("rr1;rr2;rr4;rr8;rr8;rr4;rr2;rr1;d0;d1;d2;d3;d4;d5;d6;d7;", 30, 15, 0);
    x = Check.told("rr3;");
    Check.due("tips(3)", x.tips(3), -2);
    Check.due("tips(-1)", x.tips(-1), -2);
  }

  private static void dearest() {
    BackFromBreakfast x = new BackFromBreakfast();
    Check.due("no rooms, dearest(0)", x.dearest(0), -9);
    Check.due("no rooms, dearest(1)", x.dearest(1), 0);
    Check.due("no rooms, dearest(2)", x.dearest(2), 0);
    x = Check.told("rr3;rb5;rp4;ru9;rl9;d3;");
    Check.due("of alike the least", x.dearest(0), 1);
    Check.due("LINEN", x.dearest(2), 1 + 2 + 3 + 2);
    // OUT at 0: r3 not, b5 not, p4 not, u9, l9 not; DONE or not
    Check.due("out at 0", x.dearest(1), 8);
    x.card(3);
    Check.tell(x, "t0005;t1999;");
    Check.due("out at 5", x.dearest(1), 1 + 2 + 8);
    x.undo(1);
    Check.due("the next", x.dearest(0), 2);
    Check.due("LINEN", x.dearest(2), 1 + 3 + 2);
    x.undo(2);
    Check.due("the last", x.dearest(0), 4);
    x.undo(4);
    x.undo(0);
    Check.due("none", x.dearest(0), -9);
    Check.due("no LINEN", x.dearest(2), 0);
    x.undo(3);
    Check.due("the one, with a card", x.dearest(0), 3);
    Check.due("dearest(3)", x.dearest(3), -2);
    Check.due("dearest(-1)", x.dearest(-1), -2);
  }

  private static void overlap() {
    BackFromBreakfast x = Check.told("rr5;rl1;ru0;t1500;");
    // r5 at 5 .. 19, 25 .. 39, l1 from 10 on
    Check.due("overlap(0, 1, 20)", x.overlap(0, 1, 20), 10);
    Check.due("overlap(1, 0, 20)", x.overlap(1, 0, 20), 10);
    Check.due("overlap(0, 1, 10)", x.overlap(0, 1, 10), 0);
    Check.due("overlap(0, 1, 11)", x.overlap(0, 1, 11), 1);
    Check.due("overlap(0, 1, 0)", x.overlap(0, 1, 0), 0);
    Check.due("overlap(0, 2, 99)", x.overlap(0, 2, 99), 74);
    Check.tell(x, "t0039;d0;c1;");
    // 39, then 45, 46
    Check.due("overlap(0, 1, 8)", x.overlap(0, 1, 8), 3);
    Check.tell(x, "t0999;");
    // 999, then 1005
    Check.due("overlap(0, 1, 7)", x.overlap(0, 1, 7), 2);
    Check.due("overlap(0, 0, -1)", x.overlap(0, 0, -1), -1);
    Check.due("overlap(3, 0, 1)", x.overlap(3, 0, 1), -1);
    Check.due("overlap(0, 3, 1)", x.overlap(0, 3, 1), -1);
    Check.due("overlap(-1, 0, 1)", x.overlap(-1, 0, 1), -1);
    Check.due("overlap(0, -1, 1)", x.overlap(0, -1, 1), -1);
    Check.due("overlap(0, 1, -1)", x.overlap(0, 1, -1), -4);
    Check.due("overlap(0, 1, 100)", x.overlap(0, 1, 100), -6);
    Check.due("overlap(0, 1, MAX)", x.overlap(0, 1, Integer.MAX_VALUE), -6);
  }

  private static void twoAre(String text, int want) {
    BackFromBreakfast x = Check.told(text);
    String before = Check.seen(x);
    Check.due(text + " two(0, 1)", x.two(0, 1), want);
    Check.holds(text + " in mind", before.equals(Check.seen(x)));
  }

  private static void two() {
    // both at the first: 6; at the second: 7; alone: 9 and 10
    twoAre("rr0;rr0;", 0);
    twoAre("rr0;c0;rr0;c1;m016;m126;", 1);
    twoAre("rr0;c0;rr0;c1;m026;m116;t0010;", 10);
    twoAre("rr0;rr0;c1;m026;m126;", 11);
    // 0: 13, 13; 1: 3, 15; 10: 11, 16; 11: 12, 12
    twoAre("rr5;rr1;m006;m126;t0001;t1007;", -9);
    // 0: 6, 6; 1: 0, 7; 10: 1, 6; 11: 7, 7
    twoAre("rr0;c0;rr0;c1;m016;m106;t1005;", 10);
    // each is 1 away from either: another one is no sooner
    BackFromBreakfast x = Check.told("rr0;c0;rr0;rr0;c2;m026;m126;");
    Check.due("alike soon", x.two(0, 2), 0);
    x = Check.told("rr0;rr0;c1;m026;m126;");
    Check.due("two(1, 0)", x.two(1, 0), 0);
    Check.due("two(0, 0)", x.two(0, 0), -1);
    Check.due("two(2, 0)", x.two(2, 0), -1);
    Check.due("two(0, 2)", x.two(0, 2), -1);
    Check.due("two(-1, 0)", x.two(-1, 0), -1);
    Check.due("two(0, -1)", x.two(0, -1), -1);
  }
}
