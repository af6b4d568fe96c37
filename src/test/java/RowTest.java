/** Promises 36 to 40: what a room is by the row, the row itself, judged rounds, mornings by lot. */
public final class RowTest {
  public static void main(String[] args) {
    whatIs();
    row();
    judge();
    lots();
    Check.end("RowTest");
  }

  private static void isByRow(BackFromBreakfast x, int room, int kinds, int figures) {
    Check.due("whatIs(" + room + ", 0)", x.whatIs(room, 0), kinds);
    Check.due("whatIs(" + room + ", 1)", x.whatIs(room, 1), figures);
  }

  private static void whatIs() {
    BackFromBreakfast x = Check.told("rs0;rr6;rl9;d0;c1;");
    isByRow(x, 0, 127, 1023);
    Check.row(x, 5, 1, 15, 0);
    // figure 0: s and b alone are out at 5 and in at 15; a STAYING one by 0 .. 5
    isByRow(x, 0, 4 + 16, 63);
    // figure 6: r is in at 5, l too, s at 5 too, u is out at 15; r is in at 15 by none
    isByRow(x, 1, 0, 0);
    Check.row(x, 40, 1, 41, 1, 39, 2, 90, 99);
    isByRow(x, 2, 64, 15);
    Check.row(x, 40, 1, 41, 0);
    isByRow(x, 0, 8, 0);
    Check.row(x, 89, 0, 90, 1);
    isByRow(x, 2, 2 + 8 + 32, 512);
    // figure 6: a LATE one is in at 89, but out at 90
    isByRow(x, 1, 8, 0);
    Check.row(x, 25, 0, 26, 1);
    isByRow(x, 1, 1 + 4 + 16, 64);
    Check.row(x, 0, 1);
    isByRow(x, 1, 64, 1);
    String before = Check.seen(x);
    isByRow(x, 1, 64, 1);
    Check.holds("the row stays", before.equals(Check.seen(x)));
    Check.row(x, 0, 1, 5);
    Check.due("whatIs(3, 2)", x.whatIs(3, 2), -1);
    Check.due("whatIs(-1, 0)", x.whatIs(-1, 0), -1);
    Check.due("whatIs(0, 2)", x.whatIs(0, 2), -2);
    Check.due("whatIs(0, -1)", x.whatIs(0, -1), -2);
    Check.due("unwhole", x.whatIs(0, 0), -3);
    Check.due("unwhole", x.whatIs(0, 1), -3);
    x.row(1);
    Check.due("whole", x.whatIs(0, 1), 1 << 0);
    Check.row(x, 0, 1, 2, 1, 4, 1, 6, 1, 8, 1, 10, 1, 12, 1, 15, 0);
    // out at even MINUTES, in at an odd one: LATE alone, by the last pair
    Check.due("to the last pair", x.whatIs(0, 0), 8);
  }

  private static void row() {
    BackFromBreakfast x = new BackFromBreakfast();
    Check.due("row(-1)", x.row(-1), -4);
    Check.due("row(100)", x.row(100), -6);
    for (int i = 1; i <= 16; i++) {
      Check.due("row " + i, x.row(i % 2 == 0 ? 0 : 99), i);
    }
    Check.due("the 17th", x.row(0), -6);
    Check.due("the 17th, below", x.row(-1), -4);
    Check.due("count(6)", x.count(6), 16);
    Check.due("clear()", x.clear(), 16);
    Check.due("clear() again", x.clear(), 0);
    Check.due("count(6)", x.count(6), 0);
    Check.due("row again", x.row(0), 1);
    Check.due("clear()", x.clear(), 1);
  }

  private static void judged(BackFromBreakfast x, int want, int... row) {
    Check.row(x, row);
    String before = Check.state(x);
    Check.due("judge() of a row of " + row.length, x.judge(), want);
    Check.due("the row has none then", x.count(6), 0);
    Check.holds("in mind", before.equals(Check.state(x)));
  }

  private static void judge() {
    BackFromBreakfast x = Check.told("rr9;rr0;rr0;c2;t1300;");
    judged(x, -9);
    judged(x, -9, 1);
    judged(x, -9, 1, 0);
    judged(x, 0, 0, 1);
    judged(x, -9, 0, 1, 0);
    judged(x, 1, 1, 9, 0);
    judged(x, 1, 1, 99);
    judged(x, 0, 3);
    judged(x, 1, 1, 2);
    judged(x, 0, 0);
    judged(x, 15, 1, 1, 1, 1, 1, 1, 1, 1, 1, 1, 1, 1, 1, 1, 1, 2);
    x.undo(2);
    judged(x, -9, 1, 2);
    // MAID 0 it is: at 302 the guest would be out
    x = Check.told("rl9;t1300;");
    judged(x, 0, 0);
    Check.tell(x, "t0300;t1000;");
    judged(x, -9, 0);
  }

  private static void lotsAre(BackFromBreakfast x, int n, int z, int done, int minutes) {
    Check.due("lots(" + n + ", " + z + ", 0)", x.lots(n, z, 0), done);
    Check.due("lots(" + n + ", " + z + ", 1)", x.lots(n, z, 1), minutes);
  }

  private static void lots() {
    lotsAre(new BackFromBreakfast(), 20, 0, 0, 0);
    // DRAWS of 0 are 3, 7, 6, 9, 9, 0, of -1 are 1, 0, 6, 7, 8, 9
    BackFromBreakfast x = Check.told("rr5;t1010;");
    String before = Check.seen(x);
    lotsAre(x, 1, 0, 0, 2);
    lotsAre(x, 6, 0, 1, 5 * 2 + 9);
    Check.holds("in mind", before.equals(Check.seen(x)));
    Check.tell(x, "t0010;");
    lotsAre(x, 1, 0, 1, 9);
    lotsAre(x, 6, 0, 6, 54);
    x = Check.told("rr5;rb5;");
    lotsAre(x, 1, -1, 1, 11);
    lotsAre(x, 2, -1, 1, 15);
    lotsAre(x, 3, -1, 1, 19);
    // a DRAW for a room that is DONE, too
    x = Check.told("rr5;d0;rr5;");
    lotsAre(x, 1, -1, 2, 10);
    lotsAre(x, 2, -1, 3, 13);
    Check.due("lots(0, 0, 9)", x.lots(0, 0, 9), -4);
    Check.due("lots(MIN, 0, 0)", x.lots(Integer.MIN_VALUE, 0, 0), -4);
    Check.due("lots(21, 0, 9)", x.lots(21, 0, 9), -6);
    Check.due("lots(20, 0, 2)", x.lots(20, 0, 2), -2);
    Check.due("lots(20, 0, -1)", x.lots(20, 0, -1), -2);
  }
}
