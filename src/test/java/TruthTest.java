/** Promises 4 to 13: what there is, and what is done in truth. */
public final class TruthTest {
  private static final int[] WORK_5 = {7, 10, 7, 10, 12, 12, 3};
  private static final int[] LINEN = {1, 2, 1, 2, 2, 3, 0};
  private static final int[] TIP_5 = {5, 5, 0, 10, 3, 6, 5};
  private static final int[] WORK_9 = {7, 10, 7, 10, 16, 14, 3};
  private static final int[] TIP_9 = {9, 9, 0, 18, 3, 10, 9};
  private static final int[] WORK_0 = {7, 10, 7, 10, 7, 10, 3};
  private static final int[] TIP_0 = {0, 0, 0, 0, 3, 1, 0};

  public static void main(String[] args) {
    rooms();
    maids();
    cardsAndUndo();
    turn();
    places();
    stays();
    visits();
    both();
    down();
    Check.end("TruthTest");
  }

  private static void rooms() {
    kinds("rr5;rl5;rs5;ra5;rb5;rp5;ru5;", WORK_5, TIP_5);
    kinds("rr9;rl9;rs9;ra9;rb9;rp9;ru9;", WORK_9, TIP_9);
    kinds("rr0;rl0;rs0;ra0;rb0;rp0;ru0;", WORK_0, TIP_0);
    BackFromBreakfast x = Check.told("rr5;ru7;c1;d0;");
    Check.due("room(1, 0)", x.room(1, 0), 6);
    Check.due("room(1, 1)", x.room(1, 1), 7);
    Check.due("room(0, 2)", x.room(0, 2), 1);
    Check.due("room(0, 3)", x.room(0, 3), 0);
    Check.due("room(1, 2)", x.room(1, 2), 0);
    Check.due("room(1, 3)", x.room(1, 3), 1);
    Check.due("room(2, 0)", x.room(2, 0), -1);
    Check.due("room(-1, 0)", x.room(-1, 0), -1);
    Check.due("room(8, 9)", x.room(8, 9), -1);
    Check.due("room(0, 7)", x.room(0, 7), -2);
    Check.due("room(0, -1)", x.room(0, -1), -2);
    Check.due("count(11)", x.count(11), 3);
    Check.due("count(12)", x.count(12), 2);
  }

  private static void kinds(String text, int[] work, int[] tip) {
    BackFromBreakfast x = Check.told(text);
    for (int room = 0; room < 7; room++) {
      Check.due("work of kind " + room, x.room(room, 4), work[room]);
      Check.due("linen of kind " + room, x.room(room, 5), LINEN[room]);
      Check.due("tip of kind " + room, x.room(room, 6), tip[room]);
    }
  }

  private static void maids() {
    BackFromBreakfast x = Check.told("rr5;m113;t1456;");
    Check.due("maid(1, 0)", x.maid(1, 0), 1);
    Check.due("maid(1, 1)", x.maid(1, 1), 3);
    Check.due("maid(1, 2)", x.maid(1, 2), 456);
    Check.due("maid(0, 0)", x.maid(0, 0), 0);
    Check.due("maid(0, 1)", x.maid(0, 1), 6);
    Check.due("maid(2, 0)", x.maid(2, 0), -1);
    Check.due("maid(-1, 3)", x.maid(-1, 3), -1);
    Check.due("maid(0, 3)", x.maid(0, 3), -2);
    Check.due("maid(0, -1)", x.maid(0, -1), -2);
  }

  private static void cardsAndUndo() {
    BackFromBreakfast x = Check.told("rr5;rr5;c1;d1;");
    Check.due("card(0)", x.card(0), 1);
    Check.due("count(2)", x.count(2), 3);
    Check.due("card(0)", x.card(0), 0);
    Check.due("card(1)", x.card(1), 0);
    Check.due("count(2)", x.count(2), 0);
    Check.due("card(2)", x.card(2), -1);
    Check.due("card(-1)", x.card(-1), -1);
    Check.due("card(32)", x.card(32), -1);
    Check.due("undo(1)", x.undo(1), 0);
    Check.due("undo(0)", x.undo(0), 1);
    Check.due("count(1)", x.count(1), 1);
    Check.due("undo(1)", x.undo(1), 1);
    Check.due("count(1)", x.count(1), 3);
    Check.due("undo(2)", x.undo(2), -1);
    Check.due("undo(-1)", x.undo(-1), -1);
    Check.due("count(11)", x.count(11), 5);
  }

  private static void turn() {
    BackFromBreakfast x = Check.told("rp5;rl0;c0;d0;");
    Check.due("turn(0, 6, 9)", x.turn(0, 6, 9), 55);
    Check.due("kind", x.room(0, 0), 6);
    Check.due("figure", x.room(0, 1), 9);
    Check.due("still done", x.room(0, 2), 1);
    Check.due("still a card", x.room(0, 3), 1);
    Check.due("turn(0, 0, 0)", x.turn(0, 0, 0), 69);
    Check.due("turn(1, 1, 1)", x.turn(1, 1, 1), 10);
    String before = Check.state(x);
    Check.due("turn(2, 7, -1)", x.turn(2, 7, -1), -1);
    Check.due("turn(-1, 0, 0)", x.turn(-1, 0, 0), -1);
    Check.due("turn(0, 7, -1)", x.turn(0, 7, -1), -2);
    Check.due("turn(0, -1, 10)", x.turn(0, -1, 10), -2);
    Check.due("turn(0, 6, -1)", x.turn(0, 6, -1), -4);
    Check.due("turn(0, 6, 10)", x.turn(0, 6, 10), -6);
    Check.holds("nothing turned", before.equals(Check.state(x)));
  }

  private static void places() {
    BackFromBreakfast x = Check.told("rr5;rr5;t0100;");
    Check.due("places(0, 2, 3)", x.places(0, 2, 3), 6);
    Check.due("places(0, 0, 0)", x.places(0, 0, 0), 23);
    Check.due("places(1, 1, 6)", x.places(1, 1, 6), 6);
    Check.due("at", x.maid(1, 0), 1);
    Check.due("load", x.maid(1, 1), 6);
    Check.due("clock stays", x.maid(0, 2), 100);
    String before = Check.state(x);
    Check.due("places(2, 0, 0)", x.places(2, 0, 0), -1);
    Check.due("places(-1, 0, 7)", x.places(-1, 0, 7), -1);
    Check.due("places(0, 3, 0)", x.places(0, 3, 0), -1);
    Check.due("places(0, -1, -1)", x.places(0, -1, -1), -1);
    Check.due("places(0, 2, -1)", x.places(0, 2, -1), -4);
    Check.due("places(0, 2, 7)", x.places(0, 2, 7), -6);
    Check.holds("nobody placed", before.equals(Check.state(x)));
  }

  private static void stays() {
    BackFromBreakfast x = Check.told("rr5;t0939;t1939;");
    Check.due("stays(0, 0)", x.stays(0, 0), -4);
    Check.due("stays(0, 61)", x.stays(0, 61), -6);
    Check.due("stays(2, 0)", x.stays(2, 0), -1);
    Check.due("stays(-1, 1)", x.stays(-1, 1), -1);
    Check.due("stays(0, MAX)", x.stays(0, Integer.MAX_VALUE), -6);
    Check.due("stays(0, MIN)", x.stays(0, Integer.MIN_VALUE), -4);
    Check.due("clock", x.maid(0, 2), 939);
    Check.due("stays(0, 60)", x.stays(0, 60), 999);
    Check.due("stays(0, 1)", x.stays(0, 1), -6);
    Check.due("stays(1, 1)", x.stays(1, 1), 940);
    Check.due("stays(1, 60)", x.stays(1, 60), -6);
    Check.due("stays(1, 59)", x.stays(1, 59), 999);
    x = new BackFromBreakfast();
    Check.due("stays(0, 61) at 0", x.stays(0, 61), -6);
    Check.due("stays(0, 60) at 0", x.stays(0, 60), 60);
  }

  private static void maidIs(String when, BackFromBreakfast x, int maid, int at, int load, int clock) {
    Check.due(when + ": at of " + maid, x.maid(maid, 0), at);
    Check.due(when + ": load of " + maid, x.maid(maid, 1), load);
    Check.due(when + ": clock of " + maid, x.maid(maid, 2), clock);
  }

  private static void visits() {
    BackFromBreakfast x = Check.told("rr3;rr0;c1;");
    Check.due("in at the knock", x.visits(0, 0), 1);
    maidIs("in at the knock", x, 0, 1, 6, 2);
    Check.due("a card", x.visits(0, 1), 0);
    maidIs("a card", x, 0, 2, 6, 3);
    Check.due("worked", x.visits(0, 0), 3);
    maidIs("worked", x, 0, 1, 5, 12);
    maidIs("worked", x, 1, 0, 6, 0);
    Check.due("done", x.room(0, 2), 1);
    Check.due("all done", x.visits(1, 0), 0);
    maidIs("all done", x, 1, 1, 6, 1);

    x = Check.told("rr0;rp0;m002;");
    Check.due("with linen", x.visits(0, 1), 3);
    // steps 2, knock 3, down and back 2 * 2 + 4: 11, WORK 10
    maidIs("with linen", x, 0, 2, 3, 21);
    Check.due("of enough linen", x.places(0, 2, 3), 23);
    x.undo(1);
    Check.due("as much as it takes", x.visits(0, 1), 3);
    maidIs("as much as it takes", x, 0, 2, 0, 32);

    x = Check.told("rr6;m000;t0017;");
    Check.due("in behind linen", x.visits(0, 0), 2);
    maidIs("in behind linen", x, 0, 1, 6, 25);
    Check.due("not done", x.room(0, 2), 0);

    x = Check.told("ru0;m010;t0995;m110;t1995;");
    String before = Check.state(x);
    Check.due("visits(2, 0)", x.visits(2, 0), -1);
    Check.due("visits(-1, 0)", x.visits(-1, 0), -1);
    Check.due("visits(0, 1)", x.visits(0, 1), -1);
    Check.due("visits(0, -1)", x.visits(0, -1), -1);
    Check.holds("nobody came", before.equals(Check.state(x)));
    Check.due("clock 999", x.visits(0, 0), 3);
    maidIs("clock 999", x, 0, 1, 0, 999);
    Check.due("stays(1, 1)", x.stays(1, 1), 996);
    x.undo(0);
    before = Check.state(x);
    Check.due("clock 1000", x.visits(1, 0), -6);
    Check.holds("clock 1000: nothing changed", before.equals(Check.state(x)));
  }

  private static void both() {
    BackFromBreakfast y = Check.told("rr0;rr0;");
    y.bothLong(1, 0);
    y.howLong(1, 1, 0);
    Check.due("a visit behind thoughts", y.visits(0, 0), 3);
    Check.due("down behind thoughts", y.down(1), 2);
    y.howLong(1, 1, 0);
    Check.due("both behind thoughts", y.both(1), 3);
    // 9, 10 and 2, 4: 10, knock 11, 15
    maidIs("behind thoughts", y, 0, 2, 4, 15);
    maidIs("behind thoughts", y, 1, 2, 6, 15);

    BackFromBreakfast x = Check.told("rr1;t0010;t1020;");
    Check.due("both work", x.both(0), 3);
    // 11 and 21, both 21, knock 22, 7 / 2 + 1 MINUTES
    maidIs("both work", x, 0, 1, 5, 26);
    maidIs("both work", x, 1, 1, 6, 26);
    Check.due("both at a done room", x.both(0), 0);
    maidIs("both at a done room", x, 0, 1, 5, 26);

    x = Check.told("rr9;");
    Check.due("in at the knock of both", x.both(0), 1);
    maidIs("in at the knock of both", x, 0, 1, 6, 2);
    maidIs("in at the knock of both", x, 1, 1, 6, 2);

    x = Check.told("rr0;c0;t1050;");
    Check.due("a card for both", x.both(0), 0);
    maidIs("a card for both", x, 0, 1, 6, 51);
    maidIs("a card for both", x, 1, 1, 6, 51);

    // the LOAD is MAID 0's: 3, 4, down and back 6: 10, 10 / 2 + 1
    x = Check.told("rl0;m001;m116;t0002;");
    Check.due("both with linen", x.both(0), 3);
    maidIs("both with linen", x, 0, 1, 4, 16);
    maidIs("both with linen", x, 1, 1, 6, 16);
    x = Check.told("rl0;m006;m110;");
    Check.due("linen of maid 0", x.both(0), 3);
    maidIs("linen of maid 0", x, 0, 1, 4, 8);
    maidIs("linen of maid 0", x, 1, 1, 0, 8);

    x = Check.told("rr6;m000;t1017;");
    Check.due("both in behind linen", x.both(0), 2);
    maidIs("both in behind linen", x, 0, 1, 6, 25);
    maidIs("both in behind linen", x, 1, 1, 6, 25);

    x = Check.told("ru0;m113;t1996;");
    Check.due("both(1)", x.both(1), -1);
    Check.due("both(-1)", x.both(-1), -1);
    Check.due("clocks 999", x.both(0), 3);
    Check.due("clocks 999", x.count(4), 999);
    x.undo(0);
    String before = Check.state(x);
    Check.due("clocks above", x.both(0), -6);
    Check.holds("clocks above: nothing changed", before.equals(Check.state(x)));
  }

  private static void down() {
    BackFromBreakfast x = Check.told("rr0;rr0;m023;t0995;m110;t1997;");
    Check.due("down(2)", x.down(2), -1);
    Check.due("down(-1)", x.down(-1), -1);
    Check.due("down(1)", x.down(1), -6);
    maidIs("down(1)", x, 1, 1, 0, 997);
    Check.due("down(0)", x.down(0), 4);
    maidIs("down(0)", x, 0, 0, 6, 999);
    Check.due("down again", x.down(0), -6);
    x = Check.told("rr0;m002;");
    Check.due("down at the stairs", x.down(0), 2);
    maidIs("down at the stairs", x, 0, 0, 6, 2);
  }
}
