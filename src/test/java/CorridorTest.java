/** Promises 1 to 3: a new object, letters, the corridor told in them. */
public final class CorridorTest {
  public static void main(String[] args) {
    newObject();
    letters();
    statements();
    wrongLetters();
    wrongStatements();
    nothingComesWithFault();
    comesOnTop();
    Check.end("CorridorTest");
  }

  private static void newObject() {
    BackFromBreakfast x = new BackFromBreakfast();
    for (int what = 0; what <= 16; what++) {
      long want = what == 5 ? 12 : what >= 8 && what <= 10 ? -9 : 0;
      Check.due("new: count(" + what + ")", x.count(what), want);
    }
    for (int maid = 0; maid < 2; maid++) {
      Check.due("new: at", x.maid(maid, 0), 0);
      Check.due("new: load", x.maid(maid, 1), 6);
      Check.due("new: clock", x.maid(maid, 2), 0);
    }
    Check.due("new: room(0, 0)", x.room(0, 0), -1);
    Check.due("new: on()", x.on(), -3);
  }

  private static void letters() {
    BackFromBreakfast x = new BackFromBreakfast();
    Check.due("letter(0)", x.letter(0), 1);
    Check.due("letter(255)", x.letter(255), 2);
    Check.due("letter(256)", x.letter(256), -6);
    Check.due("letter(-1)", x.letter(-1), -4);
    Check.due("letter(MIN)", x.letter(Integer.MIN_VALUE), -4);
    Check.due("letter(MAX)", x.letter(Integer.MAX_VALUE), -6);
    for (int i = 3; i <= 96; i++) {
      Check.due("letter " + i, x.letter('r'), i);
    }
    Check.due("the 97th letter", x.letter('r'), -6);
    Check.due("the 97th letter, below", x.letter(-1), -4);
    Check.due("count(7)", x.count(7), 96);
    Check.due("count(14)", x.count(14), 3);
    Check.due("count(16)", x.count(16), 3);
    Check.due("corridor of letters 0, 255 ..", x.corridor(), -1000);
    Check.due("count(7) behind corridor", x.count(7), 0);
    Check.due("letter again", x.letter('r'), 1);
  }

  private static void statements() {
    BackFromBreakfast x = new BackFromBreakfast();
    Check.due("kinds", Check.tell(x, "rr0;rl1;rs2;ra3;rb4;rp5;ru9;"), 7);
    for (int room = 0; room < 7; room++) {
      Check.due("kind of " + room, x.room(room, 0), room);
      Check.due("figure of " + room, x.room(room, 1), room == 6 ? 9 : room);
      Check.due("done of " + room, x.room(room, 2), 0);
      Check.due("card of " + room, x.room(room, 3), 0);
    }
    Check.due("count(7)", x.count(7), 0);
    Check.due("cards", Check.tell(x, "c0;c1;c6;c1;"), 4);
    Check.due("count(2)", x.count(2), 65);
    Check.due("done", Check.tell(x, "d2;d5;d2;"), 3);
    Check.due("count(1)", x.count(1), 32);
    Check.due("maids", Check.tell(x, "m070;m125;t0999;t1000;"), 4);
    Check.due("at 0", x.maid(0, 0), 7);
    Check.due("load 0", x.maid(0, 1), 0);
    Check.due("clock 0", x.maid(0, 2), 999);
    Check.due("at 1", x.maid(1, 0), 2);
    Check.due("load 1", x.maid(1, 1), 5);
    Check.due("clock 1", x.maid(1, 2), 0);
    Check.due("clock of digits", Check.tell(x, "t0123;"), 1);
    Check.due("clock 123", x.maid(0, 2), 123);

    // steps 1, knock 2, work 9; the other one then: both at 9, all is done there
    x = Check.told("rr0;v10;b0;");
    Check.due("visited", x.count(1), 1);
    Check.due("clock of 1", x.maid(1, 2), 9);
    Check.due("clock of 0", x.maid(0, 2), 9);
    Check.due("load of 1", x.maid(1, 1), 5);

    StringBuilder full = new StringBuilder("rr1;");
    for (int i = 0; i < 23; i++) {
      full.append("v00;");
    }
    x = new BackFromBreakfast();
    Check.due("a corridor of 96 letters", Check.tell(x, full.toString()), 24);
  }

  private static void wrongLetters() {
    wrong("", 0);
    wrong("x", 0);
    wrong(";", 0);
    wrong("0", 0);
    wrong("R", 0);
    wrong("r", 1);
    wrong("r;", 1);
    wrong("rc0;", 1);
    wrong("rm0;", 1);
    wrong("rr", 2);
    wrong("rr;", 2);
    wrong("rr/;", 2);
    wrong("rr:;", 2);
    wrong("rr9", 3);
    wrong("rr99;", 3);
    wrong("rr9;x", 4);
    wrong("rr9;;", 4);
    wrong("rr9;r", 5);
    wrong("c", 1);
    wrong("cr", 1);
    wrong("c0", 2);
    wrong("c00;", 2);
    wrong("d", 1);
    wrong("d0d", 2);
    wrong("m00", 3);
    wrong("m00;", 3);
    wrong("m000", 4);
    wrong("m0000;", 4);
    wrong("t01", 3);
    wrong("t0100", 5);
    wrong("t010;", 4);
    wrong("t01000;", 5);
    wrong("v0;", 2);
    wrong("v00", 3);
    wrong("v000;", 3);
    wrong("b;", 1);
    wrong("b0v", 2);
    wrong("b00;", 2);
    // a wrong letter counts ahead of a wrong statement, wherever it is
    wrong("c0;x", 3);
    wrong("v99;rr0;rr", 10);
    wrong("rr0;c1;c", 8);
    // the end of 96 letters, if something lacks
    wrong("rr0;".repeat(23) + "t001", 96);
  }

  private static void wrong(String text, int place) {
    BackFromBreakfast x = new BackFromBreakfast();
    Check.due("corridor " + text, Check.tell(x, text), -1000 - place);
    Check.due("letters behind " + text, x.count(7), 0);
  }

  private static void wrongStatements() {
    misplaced("c0;", 0);
    misplaced("d0;", 0);
    misplaced("b0;", 0);
    misplaced("v00;", 0);
    misplaced("v20;rr0;", 0);
    misplaced("m200;", 0);
    misplaced("m010;", 0);
    misplaced("m007;", 0);
    misplaced("t2000;", 0);
    misplaced("rr0;c1;", 4);
    misplaced("rr0;d1;", 4);
    misplaced("rr0;v20;", 4);
    misplaced("rr0;v01;", 4);
    misplaced("rr0;b1;", 4);
    misplaced("rr0;m020;rr0;", 4);
    misplaced("rr0;m216;", 4);
    misplaced("rr0;m017;", 4);
    misplaced("rr0;m016;m018;", 9);
    misplaced("rr0;t9000;", 4);
    misplaced("rr0;".repeat(8) + "rr0;", 32);
    misplaced("rr0;".repeat(8) + "c8;", 32);
    // two things are wrong: the first statement of them counts
    misplaced("rr0;c9;d9;", 4);
    // a CLOCK above 999 behind a VISIT: 1 step leads to 999, and to 1000
    BackFromBreakfast x = Check.told("rr0;c0;t0998;v00;");
    Check.due("clock 999", x.maid(0, 2), 999);
    misplaced("rr0;c0;t0999;v00;", 13);
    misplaced("rr0;c0;t1999;v10;", 13);
    x = Check.told("rr0;c0;t1998;b0;");
    Check.due("clocks 999", x.maid(0, 2) + x.maid(1, 2), 1998);
    misplaced("rr0;c0;t1999;b0;", 13);
    // step, knock, 3 MINUTES of WORK: 5
    x = Check.told("ru0;t0994;v00;");
    Check.due("clock 999 by work", x.maid(0, 2), 999);
    misplaced("ru0;t0995;v00;", 10);
  }

  private static void misplaced(String text, int place) {
    BackFromBreakfast x = new BackFromBreakfast();
    Check.due("corridor " + text, Check.tell(x, text), -2000 - place);
    Check.due("letters behind " + text, x.count(7), 0);
    Check.due("rooms behind " + text, x.count(0), 0);
  }

  private static void nothingComesWithFault() {
    BackFromBreakfast x = Check.told("rr0;rl2;c1;m013;t1040;");
    String before = Check.seen(x);
    Check.due("fault 2", Check.tell(x, "rr5;c0;d0;m101;t0077;v01;b0;c9;"), -2028);
    Check.due("fault 1", Check.tell(x, "rr5;c0;d0;m101;t0077;v01;b0;c"), -1029);
    Check.holds("nothing came, nothing was counted", before.equals(Check.seen(x)));
  }

  private static void comesOnTop() {
    BackFromBreakfast x = Check.told("rr0;rr1;rr2;rr3;rr4;rr5;rr6;");
    Check.due("the eighth", Check.tell(x, "rl7;"), 1);
    Check.due("count(0)", x.count(0), 8);
    Check.due("a ninth", Check.tell(x, "rl7;"), -2000);
    Check.due("c7", Check.tell(x, "c7;d7;"), 2);
    Check.due("count(2)", x.count(2), 128);
    Check.due("c7 again", Check.tell(x, "c7;d7;"), 2);
    Check.due("count(2)", x.count(2), 0);
    Check.due("count(1)", x.count(1), 0);
    Check.due("m08", Check.tell(x, "m086;"), 1);
    Check.due("m09", Check.tell(x, "m096;"), -2000);
  }
}
