/** Promises 14 to 17: who is out when, and how long a visit takes. */
public final class VisitTest {
  public static void main(String[] args) {
    out();
    nextOut();
    howLong();
    bothLong();
    Check.end("VisitTest");
  }

  private static void outs(BackFromBreakfast x, int room, String minutesOut, int... minutes) {
    for (int i = 0; i < minutes.length; i++) {
      Check.due("out(" + room + ", " + minutes[i] + ")", x.out(room, minutes[i]),
          minutesOut.charAt(i) - '0');
    }
  }

  private static void out() {
    BackFromBreakfast x = Check.told("rr3;rl4;rs7;ra4;rb2;rp1;ru9;");
    outs(x, 0, "00110011", 0, 2, 3, 19, 20, 22, 23, 999);
    outs(x, 1, "00111", 0, 39, 40, 41, 999);
    outs(x, 2, "0011000110", 0, 6, 7, 16, 17, 26, 19, 27, 36, 37);
    outs(x, 3, "00101010", 0, 38, 40, 41, 42, 999, 998, 39);
    outs(x, 4, "0011001", 0, 1, 2, 11, 12, 21, 22);
    outs(x, 5, "0011", 0, 9, 10, 11);
    outs(x, 6, "1111", 0, 1, 19, 999);
    x = Check.told("rr0;rs0;rs9;");
    outs(x, 0, "11", 0, 20);
    outs(x, 1, "1100", 0, 9, 10, 19);
    outs(x, 2, "0011", 0, 8, 9, 18);
    Check.due("out(3, -1)", x.out(3, -1), -1);
    Check.due("out(-1, 0)", x.out(-1, 0), -1);
    Check.due("out(0, -1)", x.out(0, -1), -4);
    Check.due("out(0, 1000)", x.out(0, 1000), -6);
    // done or a card: where the guest is stays as it is
    x = Check.told("rr0;d0;c0;");
    Check.due("out of a done room", x.out(0, 0), 1);
  }

  private static void nextOut() {
    BackFromBreakfast x = Check.told("rr3;rl9;rs9;ra9;ru1;");
    Check.due("nextOut(0, 0)", x.nextOut(0, 0), 3);
    Check.due("nextOut(0, 3)", x.nextOut(0, 3), 3);
    Check.due("nextOut(0, 20)", x.nextOut(0, 20), 23);
    Check.due("nextOut(1, 29)", x.nextOut(1, 29), -9);
    Check.due("nextOut(1, 30)", x.nextOut(1, 30), 90);
    Check.due("nextOut(2, 999)", x.nextOut(2, 999), 1009);
    Check.due("nextOut(3, 30)", x.nextOut(3, 30), 90);
    Check.due("nextOut(3, 91)", x.nextOut(3, 91), 92);
    Check.due("nextOut(3, 999)", x.nextOut(3, 999), 1000);
    Check.due("nextOut(4, 17)", x.nextOut(4, 17), 17);
    Check.due("nextOut(5, -1)", x.nextOut(5, -1), -1);
    Check.due("nextOut(0, -1)", x.nextOut(0, -1), -4);
    Check.due("nextOut(0, 1000)", x.nextOut(0, 1000), -6);
  }

  private static void longs(String text, int maid, int room, int minutes, int end) {
    BackFromBreakfast x = Check.told(text);
    String before = Check.seen(x);
    Check.due(text + " howLong(0)", x.howLong(maid, room, 0), minutes);
    Check.due(text + " howLong(1)", x.howLong(maid, room, 1), end);
    Check.holds(text + " stays as it is", before.equals(Check.seen(x)));
  }

  private static void howLong() {
    longs("rr3;", 0, 0, 2, 1);
    longs("rr2;", 0, 0, 9, 3);
    longs("rr2;", 1, 0, 9, 3);
    longs("rr2;d0;t0500;", 0, 0, 1, 0);
    longs("rr2;c0;", 1, 0, 1, 0);
    longs("rr2;rr2;rp4;m012;t0050;", 0, 2, 2 + 1 + 10 + 12, 3);
    longs("rr6;m000;t0017;", 0, 0, 8, 2);
    longs("ru0;t0999;", 0, 0, 5, 3);
    BackFromBreakfast x = Check.told("rr2;");
    Check.due("howLong(2, 0, 0)", x.howLong(2, 0, 0), -1);
    Check.due("howLong(-1, 0, 0)", x.howLong(-1, 0, 0), -1);
    Check.due("howLong(0, 1, 0)", x.howLong(0, 1, 0), -1);
    Check.due("howLong(0, -1, 5)", x.howLong(0, -1, 5), -1);
    Check.due("howLong(0, 0, 2)", x.howLong(0, 0, 2), -2);
    Check.due("howLong(0, 0, -1)", x.howLong(0, 0, -1), -2);
  }

  private static void bothLongs(String text, int room, int minutes0, int minutes1, int end) {
    BackFromBreakfast x = Check.told(text);
    String before = Check.seen(x);
    Check.due(text + " bothLong(0)", x.bothLong(room, 0), minutes0);
    Check.due(text + " bothLong(1)", x.bothLong(room, 1), minutes1);
    Check.due(text + " bothLong(2)", x.bothLong(room, 2), end);
    Check.holds(text + " stays as it is", before.equals(Check.seen(x)));
  }

  private static void bothLong() {
    bothLongs("rr1;t0010;t1020;", 0, 16, 6, 3);
    bothLongs("rr9;t0020;", 0, 2, 22, 1);
    bothLongs("rr0;c0;t1050;", 0, 51, 1, 0);
    bothLongs("rr6;m000;t1017;", 0, 25, 8, 2);
    bothLongs("rb9;t0989;t1989;", 0, 2 + 9, 2 + 9, 3);
    bothLongs("ru0;t0999;t1999;", 0, 4, 4, 3);
    BackFromBreakfast x = Check.told("rr2;");
    Check.due("bothLong(1, 3)", x.bothLong(1, 3), -1);
    Check.due("bothLong(-1, 0)", x.bothLong(-1, 0), -1);
    Check.due("bothLong(0, 3)", x.bothLong(0, 3), -2);
    Check.due("bothLong(0, -1)", x.bothLong(0, -1), -2);
  }
}
