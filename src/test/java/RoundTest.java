/** Promises 18 to 23: rounds over the row, the nearest room, orders, shares, together or alone. */
public final class RoundTest {
  public static void main(String[] args) {
    round();
    swap();
    nearest();
    order();
    share();
    together();
    Check.end("RoundTest");
  }

  private static void round() {
    BackFromBreakfast x = Check.told("rr0;rr0;m100;");
    Check.due("empty row, 0", x.round(0, 0), 0);
    Check.due("empty row, 1", x.round(0, 1), 0);
    Check.due("empty row, 2", x.round(0, 2), 0);
    Check.row(x, 0, 1, 9, 0);
    String before = Check.seen(x);
    Check.due("round(0, 0)", x.round(0, 0), 9 + 9 + 1);
    Check.due("round(0, 1)", x.round(0, 1), 3);
    Check.due("round(0, 2)", x.round(0, 2), 0);
    Check.due("round(1, 0)", x.round(1, 0), 15 + 9 + 1);
    Check.due("round(1, 2)", x.round(1, 2), 1);
    Check.holds("all stays, the row too", before.equals(Check.seen(x)));
    x.undo(0);
    Check.due("done before", x.round(0, 1), 2);
    Check.due("done before, minutes", x.round(0, 0), 1 + 9 + 1);
    Check.due("round(2, 0)", x.round(2, 0), -1);
    Check.due("round(-1, 3)", x.round(-1, 3), -1);
    Check.due("round(0, 3)", x.round(0, 3), -2);
    Check.due("round(0, -1)", x.round(0, -1), -2);
    Check.due("the row stays", x.count(6), 4);
    // down in vain counts too: knock 19 out, back at 25 not; then out at 27
    x = Check.told("rr6;m000;t0017;");
    Check.row(x, 0);
    Check.due("down in vain", x.round(0, 2), 1);
    Check.due("down in vain, bits", x.round(0, 1), 0);
    x = Check.told("rp0;rp0;rp0;m002;");
    Check.row(x, 2, 1, 0);
    // 3, 4, down 10: 14, 24; 25, 26, 36 (0 left); 37, 38, down 6: 44, 54
    Check.due("down twice", x.round(0, 2), 2);
    Check.due("down twice, minutes", x.round(0, 0), 54);
    Check.due("down twice, bits", x.round(0, 1), 7);
  }

  private static void swap() {
    BackFromBreakfast x = Check.told("rr0;c0;rr0;c1;rr0;c2;");
    Check.due("empty row", x.swap(0), -9);
    swapIs(x, 2, 2, 1, 0);
    swapIs(x, 3, 1, 0, 1, 0);
    swapIs(x, 1, 1, 0, 9);
    swapIs(x, 2, 9, 1, 0);
    swapIs(x, -9, 0, 1, 2);
    swapIs(x, -9, 1);
    swapIs(x, -9, 1, 1);
    swapIs(x, 16 + 2, 0, 2, 1);
    swapIs(x, 14 * 16 + 15, 9, 9, 9, 9, 9, 9, 9, 9, 9, 9, 9, 9, 9, 0, 2, 1);
    String before = Check.seen(x);
    Check.due("swap(2)", x.swap(2), -1);
    Check.due("swap(-1)", x.swap(-1), -1);
    Check.due("as is", x.swap(1), 14 * 16 + 15);
    Check.due("the row stays", x.count(6), 16);
    Check.due("its minutes", x.round(0, 0), 1 + 2 + 1);
    Check.holds("two refusals", !before.equals(Check.seen(x)) && x.count(11) == 2);
    // by MINUTES with work: 2, 3, 10, 11, 12, 19 or 1, 2, 9, 10, 11, 18
    x = Check.told("rr0;rr0;");
    swapIs(x, 1, 1, 0);
    swapIs(x, 2, 1, 0, 0);
  }

  private static void swapIs(BackFromBreakfast x, int want, int... row) {
    Check.row(x, row);
    Check.due("swap(0) of a row of " + row.length, x.swap(0), want);
  }

  private static void nearest() {
    Check.due("no rooms", new BackFromBreakfast().nearest(0), -9);
    BackFromBreakfast x = Check.told("rr9;rr0;rl0;");
    Check.due("the second", x.nearest(0), 1);
    Check.due("the second, of 1", x.nearest(1), 1);
    x.card(1);
    Check.due("the third", x.nearest(0), 2);
    x.undo(2);
    Check.due("none", x.nearest(0), -9);
    x = Check.told("rr0;rl0;rr0;m026;");
    Check.due("of alike the least", x.nearest(0), 0);
    x = Check.told("rr0;rl0;rr0;m036;");
    Check.due("the last", x.nearest(0), 2);
    x = Check.told("rl0;ru0;");
    Check.due("by all minutes, not by steps", x.nearest(0), 1);
    String before = Check.state(x);
    Check.due("nearest(2)", x.nearest(2), -1);
    Check.due("nearest(-1)", x.nearest(-1), -1);
    Check.holds("nobody goes", before.equals(Check.state(x)));
  }

  private static void orders(BackFromBreakfast x, int maid, int set, int number, int done, int minutes) {
    Check.due("order(" + set + ", 0)", x.order(maid, set, 0), number);
    Check.due("order(" + set + ", 1)", x.order(maid, set, 1), done);
    Check.due("order(" + set + ", 2)", x.order(maid, set, 2), minutes);
  }

  private static void order() {
    BackFromBreakfast x = Check.told("rr0;rr0;rr0;rr0;rr0;rr0;rr0;rr0;");
    String before = Check.state(x);
    orders(x, 0, 0, 0, 0, 0);
    orders(x, 0, 7, 123, 3, 27);
    orders(x, 1, 5, 13, 2, 19);
    orders(x, 0, 128, 8, 1, 16);
    orders(x, 0, 31, 12345, 5, 45);
    Check.holds("in mind", before.equals(Check.state(x)));
    x.undo(1);
    x.undo(7);
    orders(x, 0, 5, 13, 4, 19);
    orders(x, 0, 0, 0, 2, 0);
    Check.due("order(2, -1, 9)", x.order(2, -1, 9), -1);
    Check.due("order(-1, 0, 0)", x.order(-1, 0, 0), -1);
    Check.due("order(0, -1, 9)", x.order(0, -1, 9), -4);
    Check.due("order(0, MIN, 0)", x.order(0, Integer.MIN_VALUE, 0), -4);
    Check.due("order(0, 256, 9)", x.order(0, 256, 9), -6);
    Check.due("order(0, MAX, 0)", x.order(0, Integer.MAX_VALUE, 0), -6);
    Check.due("order(0, 63, 9)", x.order(0, 63, 9), -3);
    Check.due("order(0, 31, 3)", x.order(0, 31, 3), -2);
    Check.due("order(0, 31, -1)", x.order(0, 31, -1), -2);
    x = Check.told("rr0;rr0;");
    Check.due("bits of no room", x.order(0, 4, 0), -6);
    Check.due("bits of a room and of none", x.order(0, 5, 0), -6);
    // most are done: the other one first, then the LEFT one is out
    x = Check.told("rl2;rr0;t0011;");
    orders(x, 0, 3, 21, 2, 22);
    // of these in fewest MINUTES
    x = Check.told("rr0;c0;rr0;c1;rr0;c2;m036;");
    orders(x, 0, 7, 321, 0, 2);
    // of several the first by numbers
    x = Check.told("rr0;c0;rr0;c1;rr0;c2;m026;");
    orders(x, 0, 5, 13, 0, 3);
    orders(x, 0, 7, 123, 0, 3);
    x = Check.told("rl2;rr0;");
    orders(x, 0, 3, 12, 1, 11);
    // up and all the way down; the fourth first, for she is there
    x = Check.told("rr0;c0;rr0;c1;rr0;c2;rr0;c3;rr0;c4;m046;");
    orders(x, 0, 31, 45321, 0, 5);
    orders(x, 0, 30, 4532, 0, 4);
    orders(x, 1, 31, 12345, 0, 5);
  }

  private static void shares(BackFromBreakfast x, int set, int bits, int done, int clock) {
    Check.due("share(" + set + ", 0)", x.share(set, 0), bits);
    Check.due("share(" + set + ", 1)", x.share(set, 1), done);
    Check.due("share(" + set + ", 2)", x.share(set, 2), clock);
  }

  private static void share() {
    BackFromBreakfast x = Check.told("rr0;rr0;");
    String before = Check.state(x);
    shares(x, 0, 0, 0, 0);
    // one each: 9 and 10, whoever has which
    shares(x, 3, 1, 2, 10);
    shares(x, 2, 0, 1, 10);
    Check.holds("in mind", before.equals(Check.state(x)));
    // MAID 1 is late: MAID 0 takes both
    Check.tell(x, "t1050;");
    shares(x, 3, 0, 2, 50);
    Check.tell(x, "t1000;t0050;");
    shares(x, 3, 3, 2, 50);
    x.undo(0);
    shares(x, 2, 2, 2, 50);
    shares(x, 0, 0, 1, 50);
    // most are done, however late: MAID 1 alone comes when the guest is out
    x = Check.told("rl9;t1300;");
    shares(x, 1, 1, 1, 312);
    // 18 for the first two, 3 + 8 + 1 + 8 for the others
    x = Check.told("rr0;rr0;rr0;rr0;");
    shares(x, 15, 3, 4, 20);
    Check.due("share(-1, 9)", x.share(-1, 9), -4);
    Check.due("share(MIN, 0)", x.share(Integer.MIN_VALUE, 0), -4);
    Check.due("share(16, 9)", x.share(16, 9), -6);
    Check.due("share(31, 0)", x.share(31, 0), -6);
    Check.due("share(MAX, 0)", x.share(Integer.MAX_VALUE, 0), -6);
    Check.due("share(15, 3)", x.share(15, 3), -2);
    Check.due("share(15, -1)", x.share(15, -1), -2);
  }

  private static void together() {
    BackFromBreakfast x = Check.told("rr0;rr0;");
    String before = Check.state(x);
    // both: 6, then 12; alone: 9 and 10
    Check.due("alone is sooner", x.together(0, 1), 1);
    Check.holds("in mind", before.equals(Check.state(x)));
    // alone MAID 1 goes down: 3, 11, 18
    x = Check.told("rr0;rr0;m100;");
    Check.due("together is sooner", x.together(0, 1), 0);
    x = Check.told("rr0;c0;rr0;c1;");
    Check.due("alike", x.together(0, 1), -9);
    // both: 8, then knock at 10: 16, both are done; alone MAID 1 knocks at 3
    x = Check.told("rl1;rr0;t0001;t1001;");
    Check.due("more are done together", x.together(1, 0), 0);
    Check.due("as many are done", x.together(0, 1), 0);
    // both: knock at 4, 8, and 9 at the card; alone MAID 0 knocks at 1
    x = Check.told("rr3;rr3;c1;m016;t1002;");
    Check.due("one is done together, though later", x.together(0, 1), 0);
    // both: 9, knock 10, 14; 15, knock 16 in vain; alone: 9, 10, 17 and 3, 4, 11
    x = Check.told("rs2;rs4;t0008;t1001;");
    Check.due("more are done alone, though later", x.together(0, 1), 1);
    Check.due("together(0, 0)", x.together(0, 0), -1);
    Check.due("together(2, 0)", x.together(2, 0), -1);
    Check.due("together(0, 2)", x.together(0, 2), -1);
    Check.due("together(-1, 0)", x.together(-1, 0), -1);
    Check.due("together(0, -1)", x.together(0, -1), -1);
  }
}
