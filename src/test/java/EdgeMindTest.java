import java.util.LinkedHashMap;
import java.util.Map;
import java.util.function.ToLongFunction;

/** The numbers at the edges of what is worked out in mind: II, promises 14 to 32. */
public final class EdgeMindTest {
  private static final String EIGHT_UNSLEPT = "ru0;ru0;ru0;ru0;ru0;ru0;ru0;ru0;";
  private static final String EIGHT_PLAIN = "rr0;rr0;rr0;rr0;rr0;rr0;rr0;rr0;";

  public static void main(String[] args) {
    outFrom0To999();
    nextOutUpTo60Later();
    nothingThere();
    clocksPast999();
    guestsPast999();
    roundPassesOverWhatIsNoRoom();
    roundOf16();
    howOftenDown();
    swapOfAllPlaces();
    swapFewerThanAsItIs();
    nearestOfAll();
    orderOfNoneToFive();
    orderTheFirstByNumbers();
    orderMostDoneFirst();
    shareOfNoneToEight();
    shareOfDoneRooms();
    togetherOrAlone();
    leastLoad0To6();
    saves0AtLeast();
    wait0To30();
    firstUnderLeft();
    cardBestOfAll();
    tipsOfNoneToEight();
    dearestOfAll();
    overlap0To99();
    twoWhoChoose();
    thoughtsLeaveNothing();
    Check.end("EdgeMindTest");
  }

  /** Promise 14: "OUT at MINUTE t (0 .. 999)" */
  private static void outFrom0To999() {
    BackFromBreakfast x = Check.told("rr1;rl9;");
    Check.due("out(0, 0)", x.out(0, 0), 0);
    Check.due("out(0, 1)", x.out(0, 1), 1);
    Check.due("out(0, 999)", x.out(0, 999), 1);
    Check.due("out(1, 0)", x.out(1, 0), 0);
    Check.due("out(1, 999)", x.out(1, 999), 1);
    Check.due("out(0, -1)", x.out(0, -1), -4);
    Check.due("out(0, 1000)", x.out(0, 1000), -6);
  }

  private static void next(String text, int t, int due) {
    Check.due(text + " nextOut(0, " + t + ")", Check.told(text).nextOut(0, t), due);
  }

  /** "the first MINUTE t .. t and 60 at which he is; -9" */
  private static void nextOutUpTo60Later() {
    next("rl9;", 29, -9);
    next("rl9;", 30, 90);
    next("rl9;", 89, 90);
    next("rl9;", 90, 90);
    next("rl9;", 999, 999);
    next("rl6;", 0, 60);
    next("rl7;", 0, -9);
    next("rl7;", 9, -9);
    next("rl7;", 10, 70);
    next("ra9;", 29, -9);
    next("ra9;", 30, 90);
    next("ra9;", 91, 92);
    next("ra0;", 999, 1000);
    next("rp9;", 29, -9);
    next("rp9;", 30, 90);
    next("rr0;", 0, 0);
    next("rr9;", 0, 9);
    next("rr9;", 19, 19);
    next("rr9;", 20, 29);
    next("rr9;", 999, 999);
    next("rs0;", 9, 9);
    next("rs0;", 10, 20);
    next("rs0;", 999, 1000);
    next("rs9;", 19, 29);
    next("rs9;", 999, 1009);
    next("rb9;", 999, 1009);
    next("ru9;", 0, 0);
    next("ru9;", 999, 999);
    // a CARD, or DONE: he is out all the same
    next("rr3;c0;d0;", 0, 3);
  }

  /** No ROOMS: each thought answers what there is none of. */
  private static void nothingThere() {
    BackFromBreakfast x = new BackFromBreakfast();
    for (int maid = 0; maid < 2; maid++) {
      for (int what = 0; what <= 2; what++) {
        Check.due("round", x.round(maid, what), 0);
        Check.due("order", x.order(maid, 0, what), 0);
        Check.due("share", x.share(0, what), 0);
        Check.due("tips", x.tips(what), 0);
        Check.due("dearest", x.dearest(what), what == 0 ? -9 : 0);
      }
      Check.due("swap", x.swap(maid), -9);
      Check.due("nearest", x.nearest(maid), -9);
      Check.due("leastLoad", x.leastLoad(maid), 0);
      Check.due("saves", x.saves(maid), 0);
      Check.due("first", x.first(maid), -9);
      Check.due("cardBest", x.cardBest(maid), -9);
    }
    // a ROW of numbers that are no ROOMS
    Check.row(x, 0, 1, 99);
    Check.due("round over no ROOMS", x.round(0, 0), 0);
    Check.due("round over no ROOMS, DONE", x.round(0, 1), 0);
    Check.due("swap of no ROOMS", x.swap(0), -9);
    Check.due("nothing was refused", Check.refusals(x).equals("0 0 0 0 0 0 ") ? 1 : 0, 1);
  }

  /** "In mind (CLOCKS past 999, too)": from 999 on nothing is refused. */
  private static void clocksPast999() {
    BackFromBreakfast x = Check.told("ru0;ru0;t0999;t1999;");
    Check.row(x, 1, 0);
    String before = Check.seen(x);
    for (int maid = 0; maid < 2; maid++) {
      Check.due("howLong, MINUTES", x.howLong(maid, 1, 0), 2 + 1 + 3);
      Check.due("howLong, COMES TO", x.howLong(maid, 1, 1), 3);
      Check.due("bothLong, MINUTES", x.bothLong(1, maid), 2 + 1 + 2);
      Check.due("round, MINUTES", x.round(maid, 0), 6 + 1 + 1 + 3);
      Check.due("round, DONE", x.round(maid, 1), 3);
      Check.due("round, down", x.round(maid, 2), 0);
      Check.due("swap", x.swap(maid), 1);
      Check.due("nearest", x.nearest(maid), 0);
      Check.due("order", x.order(maid, 3, 0), 12);
      Check.due("order, DONE", x.order(maid, 3, 1), 2);
      Check.due("order, MINUTES", x.order(maid, 3, 2), 10);
      Check.due("leastLoad", x.leastLoad(maid), 0);
      Check.due("saves", x.saves(maid), 0);
      Check.due("waitFor, w", x.waitFor(maid, 0, 0), 0);
      Check.due("waitFor, MINUTES", x.waitFor(maid, 0, 1), 1 + 1 + 3);
      Check.due("first", x.first(maid), -9);
      Check.due("cardBest", x.cardBest(maid), -9);
      Check.due("likely, above", x.likely(maid, 1, 2, 0), 3);
      Check.due("likely, below", x.likely(maid, 1, 2, 1), 4);
    }
    Check.due("bothLong, COMES TO", x.bothLong(1, 2), 3);
    // one each: 1004 and 1005, whoever has which
    Check.due("share", x.share(3, 0), 1);
    Check.due("share, DONE", x.share(3, 1), 2);
    Check.due("share, the later CLOCK", x.share(3, 2), 1005);
    // together 1003, 1007; alone 1004, 1005
    Check.due("together", x.together(0, 1), 1);
    Check.due("overlap", x.overlap(0, 1, 99), 99);
    // 1003 both; alone 1004 or 1005: neither leaves the first
    Check.due("two", x.two(0, 1), 0);
    Check.due("lots, DONE", x.lots(20, 7, 0), 40);
    Check.due("lots, MINUTES", x.lots(20, 7, 1), 200);
    Check.holds("nothing refused, nothing changed", before.equals(Check.seen(x)));
    Check.due("judge", x.judge(), -9);
  }

  /** Past 999 guests are out by the same habits. */
  private static void guestsPast999() {
    // a STEP, knock at 1001, down, at 1007 WORK: 1014; or first down: 1001, knock at 1003, 1010
    BackFromBreakfast x = Check.told("rr0;m000;t0999;");
    Check.due("saves", x.saves(0), 4);
    Check.due("leastLoad", x.leastLoad(0), 1);
    // FIGURE 5: in at 1001 (1 of 20), out from 1005 on
    x = Check.told("rs5;t0999;");
    Check.due("howLong", x.howLong(0, 0, 1), 1);
    Check.due("cardBest", x.cardBest(0), 0);
    Check.due("waitFor, w", x.waitFor(0, 0, 0), 4);
    Check.due("waitFor, MINUTES", x.waitFor(0, 0, 1), 4 + 2 + 7);
    Check.due("first", Check.told("rl0;t0999;").first(0), 0);
    // from 999 to 1097: 10 MINUTES each from 1005, 1025, 1045, 1065, 1085 on
    Check.due("overlap", Check.told("rr5;rs5;t0999;").overlap(0, 1, 99), 50);
  }

  /** "(of ROOMS; what is no ROOM is passed over)" */
  private static void roundPassesOverWhatIsNoRoom() {
    BackFromBreakfast x = Check.told("rr0;rr0;rr0;");
    Check.row(x, 3, 99, 2, 8, 0, 32);
    // 3 STEPS, knock, 7; 2 STEPS, knock, 7
    Check.due("MINUTES", x.round(0, 0), 11 + 10);
    Check.due("DONE", x.round(0, 1), 5);
    Check.due("down", x.round(0, 2), 0);
    Check.row(x, 3, 4, 99);
    Check.due("no ROOM at all", x.round(0, 0), 0);
    Check.row(x, 2);
    Check.due("the last ROOM", x.round(1, 1), 4);
    // a ROOM twice is DONE by the first VISIT, one DONE before does not become so
    Check.row(x, 1, 1);
    x.undo(2);
    Check.due("twice", x.round(0, 0), 2 + 1 + 7);
    Check.row(x, 2, 1);
    Check.due("DONE before", x.round(0, 1), 2);
    Check.due("DONE before: STEPS alone", x.round(0, 0), 3 + 1 + 1 + 7);
  }

  private static void roundOf16() {
    BackFromBreakfast x = Check.told(EIGHT_UNSLEPT);
    Check.row(x, 0, 1, 2, 3, 4, 5, 6, 7, 0, 1, 2, 3, 4, 5, 6, 7);
    // 8 times a STEP, knock, 3; 7 STEPS back, 7 on
    Check.due("MINUTES", x.round(0, 0), 40 + 7 + 7);
    Check.due("DONE", x.round(0, 1), 255);
    Check.due("down", x.round(0, 2), 0);
    Check.due("judge", x.judge(), -9);
    // the last place counts
    Check.row(x, 9, 9, 9, 9, 9, 9, 9, 9, 9, 9, 9, 9, 9, 9, 9, 7);
    Check.due("the 16th", x.round(1, 1), 128);
    Check.due("the 16th, MINUTES", x.round(1, 0), 8 + 1 + 3);
  }

  /** "how often she goes down" */
  private static void howOftenDown() {
    BackFromBreakfast x = Check.told(EIGHT_PLAIN + "m000;");
    Check.row(x, 0, 1, 2, 3, 4, 5, 6, 7);
    // 1, 2, down 6, 7: 15; 5 times 9: 60; the LOAD is 0: 62, down 18, 7: 87; 9
    Check.due("down twice", x.round(0, 2), 2);
    Check.due("MINUTES", x.round(0, 0), 96);
    // with 6 at first for the seventh ROOM
    Check.due("down once", x.round(1, 2), 1);
    Check.due("MINUTES", x.round(1, 0), 54 + 2 + 18 + 7 + 9);
    Check.row(x, 0, 1, 2, 3, 4, 5);
    Check.due("just enough", x.round(1, 2), 0);
  }

  private static void swapIs(BackFromBreakfast x, int want, int... row) {
    Check.row(x, row);
    Check.due("swap(0) of a ROW of " + row.length, x.swap(0), want);
    Check.due("the ROW stays", x.count(6), row.length);
  }

  /** "the two places of the ROW (16 times the lesser and the greater)": the first and the last of 16. */
  private static void swapOfAllPlaces() {
    BackFromBreakfast x = Check.told("rr0;c0;rr0;c1;rr0;c2;m016;");
    // from PLACE 1: to 3 and to 2, or to 2 and to 3
    swapIs(x, 15, 2, 9, 9, 9, 9, 9, 9, 9, 9, 9, 9, 9, 9, 9, 9, 1);
    swapIs(x, 239, 0, 0, 0, 0, 0, 0, 0, 0, 0, 0, 0, 0, 0, 0, 2, 1);
    swapIs(x, 1, 2, 1, 9, 9, 9, 9, 9, 9, 9, 9, 9, 9, 9, 9, 9, 9);
    swapIs(x, 16 * 7 + 8, 0, 0, 0, 0, 0, 0, 0, 2, 1, 9, 9, 9, 9, 9, 9, 9);
    // of several the first by the lesser: 1 may come to any place ahead of 2; then by the greater
    swapIs(x, 15, 9, 9, 9, 9, 9, 9, 9, 9, 9, 9, 9, 9, 9, 9, 2, 1);
    swapIs(x, 2, 9, 2, 1);
    swapIs(x, 3, 9, 9, 2, 1);
    swapIs(x, 1, 2, 1, 9);
    swapIs(x, 16 + 2, 0, 2, 1, 9);
  }

  /** "fewer than as it is ...; -9" */
  private static void swapFewerThanAsItIs() {
    BackFromBreakfast x = Check.told("rr0;c0;rr0;c1;rr0;c2;m026;");
    swapIs(x, -9);
    swapIs(x, -9, 2);
    swapIs(x, -9, 2, 2);
    // from PLACE 2: up and down are alike
    swapIs(x, -9, 0, 2);
    swapIs(x, -9, 2, 0);
    swapIs(x, -9, 1, 0, 2);
    swapIs(x, -9, 9, 9);
    // fewer MINUTES, though fewer are DONE
    x = Check.told("rr0;rs5;t0010;");
    Check.row(x, 1, 0);
    Check.due("as it is: 12, knock 13, 20; 21, knock 22, 29", x.round(0, 0), 19);
    Check.due("the other: 11, knock 12, 19; 20, knock 21 in vain", x.swap(0), 1);
  }

  private static void nearestOfAll() {
    Check.due("the last of 8", Check.told(EIGHT_PLAIN + "d0;d1;d2;d3;c4;c5;c6;").nearest(0), 7);
    Check.due("the first of 8", Check.told(EIGHT_PLAIN + "m186;m086;d7;c6;c5;c4;d3;d2;d1;").nearest(1), 0);
    Check.due("she is there", Check.told(EIGHT_PLAIN + "m086;").nearest(0), 7);
    Check.due("all DONE", Check.told("rr0;rr0;d0;d1;").nearest(0), -9);
    Check.due("all with a CARD", Check.told("rr0;rr0;c0;c1;").nearest(0), -9);
    Check.due("all in", Check.told("rl9;rl9;").nearest(0), -9);
    // COMES TO 2: knock at 19, back at 25
    Check.due("in behind linen", Check.told("rr6;m000;t0017;").nearest(0), -9);
    // 2 away from either
    Check.due("of several the least", Check.told("rr0;rr0;c1;rr0;m026;").nearest(0), 0);
  }

  private static void orders(String text, int maid, int set, int number, int done, int minutes) {
    BackFromBreakfast x = Check.told(text);
    Check.due(text + " order(" + maid + ", " + set + ", 0)", x.order(maid, set, 0), number);
    Check.due(text + " order(" + maid + ", " + set + ", 1)", x.order(maid, set, 1), done);
    Check.due(text + " order(" + maid + ", " + set + ", 2)", x.order(maid, set, 2), minutes);
  }

  /** "ORDER of told ROOMS (bits, 5 at most)", "(0 of none)" */
  private static void orderOfNoneToFive() {
    orders(EIGHT_UNSLEPT, 0, 0, 0, 0, 0);
    orders(EIGHT_UNSLEPT + "d3;d5;", 0, 0, 0, 2, 0);
    orders(EIGHT_UNSLEPT, 0, 1, 1, 1, 5);
    orders(EIGHT_UNSLEPT, 1, 128, 8, 1, 12);
    orders(EIGHT_UNSLEPT, 0, 3, 12, 2, 10);
    orders(EIGHT_UNSLEPT, 0, 192, 78, 2, 11 + 5);
    orders(EIGHT_UNSLEPT, 1, 129, 18, 2, 5 + 7 + 4);
    orders(EIGHT_UNSLEPT, 0, 15, 1234, 4, 20);
    orders(EIGHT_UNSLEPT, 0, 31, 12345, 5, 25);
    orders(EIGHT_UNSLEPT, 0, 248, 45678, 5, 8 + 4 * 5);
    orders(EIGHT_UNSLEPT + "m086;", 0, 248, 87654, 5, 4 + 4 * 5);
    BackFromBreakfast x = Check.told(EIGHT_UNSLEPT);
    Check.due("6 of them", x.order(0, 63, 0), -3);
    Check.due("8 of them", x.order(0, 255, 0), -3);
    Check.due("bits of no ROOM", x.order(0, 256, 0), -6);
  }

  /** "of several the first by numbers": among all orders of two to five, the last ones too. */
  private static void orderTheFirstByNumbers() {
    orders("rr0;c0;rr0;c1;m026;", 0, 3, 21, 0, 1);
    orders("rr0;c0;rr0;c1;rr0;c2;m036;", 0, 7, 321, 0, 2);
    orders("rr0;c0;rr0;c1;rr0;c2;rr0;c3;rr0;c4;m056;", 0, 31, 54321, 0, 4);
    // up first and down then, 5 and 6 on the way: 2 and 6 STEPS
    orders("rr0;c0;rr0;rr0;c2;rr0;c3;rr0;rr0;c5;rr0;c6;m056;", 0, 1 + 4 + 8 + 32 + 64, 67431, 0, 8);
    // the LEFT one is out from 20 on: the second first, 14, 15, 18; 19, 20, 30; 32, 33, 36; alike by 231, 321
    orders("rl2;ru0;ru0;t0012;", 0, 7, 213, 3, 24);
    // FIGURE 9, knock at 18, not from 19 on: the second at once, then down, then up
    orders("rr0;c0;rs9;rr0;rr0;c3;rr0;rr0;c5;rr0;c6;m036;t0016;", 0, 1 + 2 + 8 + 32 + 64, 21467, 1, 1 + 1 + 7 + 1 + 6);
  }

  /** "by which most of all ROOMS are DONE behind it, of these in fewest MINUTES" */
  private static void orderMostDoneFirst() {
    // 12: in at 13; 21: 13, 14, 21, 22, 23, 33
    orders("rl2;rr0;t0011;", 0, 3, 21, 2, 22);
    // 12: 1, 2, 12; 13, 14, 21; 21: 2, 3, 10; 11, 12, 22
    orders("rl0;rr0;", 0, 3, 12, 2, 21);
    orders("rl9;rl9;", 0, 3, 12, 0, 4);
    orders("rr0;d0;rr0;d1;rr0;", 1, 3, 12, 2, 2);
  }

  private static void shares(String text, int set, int bits, int done, int clock) {
    BackFromBreakfast x = Check.told(text);
    Check.due(text + " share(" + set + ", 0)", x.share(set, 0), bits);
    Check.due(text + " share(" + set + ", 1)", x.share(set, 1), done);
    Check.due(text + " share(" + set + ", 2)", x.share(set, 2), clock);
  }

  /** "SHARED: told ROOMS (bits)", as many as there are */
  private static void shareOfNoneToEight() {
    shares(EIGHT_UNSLEPT, 0, 0, 0, 0);
    shares(EIGHT_UNSLEPT + "t0020;t1030;", 0, 0, 0, 30);
    shares(EIGHT_UNSLEPT, 1, 0, 1, 5);
    shares(EIGHT_UNSLEPT, 128, 0, 1, 12);
    // who has the last of n ROOMS needs 8 and 4 n; four and four: 24 and 4 and 16
    shares(EIGHT_UNSLEPT, 255, 15, 8, 24);
    // MAID 1 comes too late to be of use: 8 and 8 times 4
    shares(EIGHT_UNSLEPT + "t1999;", 255, 0, 8, 999);
    shares(EIGHT_UNSLEPT + "t0999;", 255, 255, 8, 999);
    BackFromBreakfast x = Check.told(EIGHT_UNSLEPT);
    Check.due("bits of no ROOM", x.share(256, 0), -6);
    Check.due("bits of no ROOM", x.share(511, 0), -6);
  }

  /** "so that most ROOMS are DONE": all ROOMS; to a DONE one she goes, and that is all. */
  private static void shareOfDoneRooms() {
    shares("rr0;d0;", 1, 0, 1, 1);
    shares("rr0;d0;t1001;", 1, 0, 1, 1);
    shares("rr0;d0;t1002;", 1, 0, 1, 2);
    shares("rr0;rr0;d1;", 1, 0, 2, 9);
    // most ROOMS first, however late: MAID 0 knocks at 2, MAID 1 at 302
    shares("rl9;t1300;", 1, 1, 1, 312);
    shares("rl9;t0300;", 1, 0, 1, 312);
  }

  private static void together(String text, int due) {
    Check.due(text + " together(0, 1)", Check.told(text).together(0, 1), due);
  }

  /** "that by which more ROOMS are DONE, of alike the one with the later CLOCK sooner ... -9 alike in both" */
  private static void togetherOrAlone() {
    together("rr0;c0;rr0;c1;", -9);
    together("rr0;c0;rr0;c1;t0100;", 1);
    together("rr0;rr0;d0;d1;", -9);
    // both: 11, 12, 14; 15, 16, 20; alone: 5, 8 and 12, 13, 20: two and 20 in both
    together("ru1;rr6;m016;m106;t0004;t1010;", -9);
    // both: 16, in at 17; 18, in at 19; alone: 11, 12, 19 and 17, in at 18: 19 in both, but one is DONE
    together("rs6;rp5;m026;m116;t0010;t1016;", 1);
    // both: 6, 7, 11; alone: 9 and 3, 11, 18
    together("rr0;rr0;m100;", 0);
    together("rr0;rr0;", 1);
    BackFromBreakfast x = Check.told(EIGHT_PLAIN);
    // both at PLACE 1: 6; 13, 14, 18; alone: 9 and 16
    Check.due("the first and the last", x.together(0, 7), 1);
    // both at PLACE 8: 13; 20, 21, 25
    Check.due("the last and the first", x.together(7, 0), 1);
  }

  private static void leastLoadIs(String text, int due) {
    Check.due(text + " leastLoad(0)", Check.told(text).leastLoad(0), due);
  }

  /** "LEAST LOAD (0 .. 6) ...; -9" */
  private static void leastLoad0To6() {
    leastLoadIs("ru0;", 0);
    leastLoadIs("rr0;", 1);
    leastLoadIs("rr0;rr0;", 2);
    leastLoadIs("rp0;", 3);
    leastLoadIs("rl0;rl0;", 4);
    leastLoadIs("rp0;rl0;", 5);
    leastLoadIs("rp0;rp0;", 6);
    leastLoadIs("rr0;rr0;rr0;rr0;rr0;rr0;", 6);
    leastLoadIs("rr0;rr0;rr0;rr0;rr0;rr0;rr0;", -9);
    leastLoadIs("rr0;rr0;rr0;rr0;rr0;rr0;ru0;", 6);
    leastLoadIs("rp0;rp0;rr0;", -9);
    leastLoadIs(EIGHT_PLAIN, -9);
    leastLoadIs(EIGHT_PLAIN + "d0;c7;", 6);
    leastLoadIs(EIGHT_UNSLEPT, 0);
    // in at the knock: she does not go down
    leastLoadIs("rl9;rl9;", 0);
    leastLoadIs("rr0;m000;", 1);
    leastLoadIs("ru0;m000;", 0);
  }

  private static void savesIs(String text, int due) {
    Check.due(text + " saves(0)", Check.told(text).saves(0), due);
  }

  /** "how many MINUTES sooner (0 at least)" */
  private static void saves0AtLeast() {
    savesIs("rr0;", 0);
    savesIs("ru0;m000;", 0);
    savesIs(EIGHT_UNSLEPT + "m080;", 0);
    // knock 1, back at 7, 14; or 3, 4, knock 5, 12
    savesIs("rr0;m010;", 2);
    savesIs("rr0;m000;", 4);
    // PLACE 8: 8, knock 9, 20, 36; or 2, 10, knock 11, 18
    savesIs("rr0;c0;rr0;c1;rr0;c2;rr0;c3;rr0;c4;rr0;c5;rr0;c6;rr0;m000;", 18);
    // sooner, but not DONE so: knock 7, out; or 9, 10, knock 11, in: 0
    savesIs("rs0;t0006;m016;", 0);
  }

  private static void waits(String text, int maid, int wait, int minutes) {
    BackFromBreakfast x = Check.told(text);
    Check.due(text + " waitFor(" + maid + ", 0, 0)", x.waitFor(maid, 0, 0), wait);
    Check.due(text + " waitFor(" + maid + ", 0, 1)", x.waitFor(maid, 0, 1), minutes);
  }

  /** "how many MINUTES w (0 .. 30) ...; -9" */
  private static void wait0To30() {
    waits("rr0;", 0, 0, 9);
    // out from 40 on: w, a STEP, knock
    waits("rl4;t0008;", 0, 30, 42);
    waits("rl4;t0007;", 0, -9, -9);
    waits("rl4;t1009;", 1, 29, 41);
    waits("rl4;t1008;", 1, 30, 42);
    waits("rl4;t1007;", 1, -9, -9);
    waits("rl4;t0038;", 0, 0, 12);
    waits("rl4;t0037;", 0, 1, 13);
    waits("rr0;c0;", 0, -9, -9);
    waits("rr0;d0;", 1, -9, -9);
    // FIGURE 9 is out at 9 .. 18: 19 is one too late
    waits("rs9;t0016;", 0, 0, 9);
    waits("rs9;t0017;", 0, 10, 19);
    // back from the linen at 9 at last: knock at 3; or from 20 on
    waits("rs0;m000;t0001;", 0, 0, 15);
    waits("rs0;m000;t0002;", 0, 16, 31);
  }

  private static void firstIs(String text, int due) {
    Check.due(text + " first(0)", Check.told(text).first(0), due);
  }

  /** "the ROOM of LEFT or a KIND under it that becomes DONE first ...; -9" */
  private static void firstUnderLeft() {
    firstIs("rl0;", 0);
    firstIs("ra0;", 0);
    firstIs("rp0;", 0);
    firstIs("rr0;", -9);
    firstIs("rs0;", -9);
    firstIs("rb0;", -9);
    firstIs("ru0;", -9);
    firstIs("rl0;d0;", -9);
    firstIs("rl0;c0;", -9);
    firstIs("rl1;", -9);
    firstIs("rl1;t0008;", 0);
    firstIs("rl1;t0007;", -9);
    firstIs("ru0;c0;ru0;c1;ru0;c2;ru0;c3;ru0;c4;ru0;c5;ru0;c6;rl0;", 7);
    // by the order of the round, not by MINUTES of WORK
    firstIs("rp9;t0090;rl0;", 0);
  }

  private static void cardBestIs(String text, int due) {
    Check.due(text + " cardBest(0)", Check.told(text).cardBest(0), due);
  }

  /** "fewer than as it is, with no fewer ROOMS DONE, of several the least; -9" */
  private static void cardBestOfAll() {
    cardBestIs("rl9;", 0);
    cardBestIs("rl9;c0;", -9);
    cardBestIs("rl9;d0;", -9);
    cardBestIs("rr0;", -9);
    cardBestIs("rl9;rl9;", 0);
    cardBestIs("rl9;c0;rl9;", 1);
    cardBestIs("rr0;rr0;rr0;rr0;rr0;rr0;rr0;c6;rl9;", 7);
    cardBestIs("rl9;rl9;rl9;rl9;rl9;rl9;rl9;rl9;", 0);
    // 13, in at 14; 15, out at 16, down 8, in at 24: by a CARD there 9 MINUTES less, by the other one 1
    cardBestIs("rl9;rr7;m020;t0012;", 1);
    // "the ROOM without a CARD": 7, 8, knock 9, 16; with the CARD taken away 7, knock 8, 11, 12, knock 13 in vain
    cardBestIs("ru0;c0;rs0;t0006;", -9);
    // 7, knock 8, 11, 12, knock 13 in vain: with a CARD on the second as many are DONE, a MINUTE sooner
    cardBestIs("ru0;rs0;t0006;", 1);
  }

  private static void tipsAre(String text, int all, int one, int differ) {
    BackFromBreakfast x = Check.told(text);
    Check.due(text + " tips(0)", x.tips(0), all);
    Check.due(text + " tips(1)", x.tips(1), one);
    Check.due(text + " tips(2)", x.tips(2), differ);
  }

  /** "FAIR: ... of several least bits" */
  private static void tipsOfNoneToEight() {
    tipsAre("rr9;rr9;", 0, 0, 0);
    tipsAre("rr9;d0;", 9, 0, 9);
    tipsAre("rs9;d0;", 0, 0, 0);
    tipsAre("rr9;rr9;d1;", 9, 0, 9);
    tipsAre("rr9;rr9;d0;d1;", 18, 1, 0);
    tipsAre("ra9;ra9;ra9;ra9;ra9;ra9;ra9;ra9;d0;d1;d2;d3;d4;d5;d6;d7;", 144, 15, 0);
    tipsAre("rr1;rr0;rr0;rr0;rr0;rr0;rr0;rr1;d0;d7;", 2, 1, 0);
    tipsAre("rr9;rr0;rr0;rr0;rr0;rr0;rr0;rr9;d7;", 9, 0, 9);
    // 8 of 15 in the last: 7 or 8, 1 and 2 and 4 are the least bits
    tipsAre("rr1;rr2;rr4;rr8;d0;d1;d2;d3;", 15, 7, 1);
    tipsAre("rr8;rr4;rr2;rr1;d0;d1;d2;d3;", 15, 1, 1);
    // with a CARD, too
    tipsAre("rr9;d0;c0;", 9, 0, 9);
  }

  private static void dearestIs(String text, int room, int out, int linen) {
    BackFromBreakfast x = Check.told(text);
    Check.due(text + " dearest(0)", x.dearest(0), room);
    Check.due(text + " dearest(1)", x.dearest(1), out);
    Check.due(text + " dearest(2)", x.dearest(2), linen);
  }

  /** "DEAREST: ... of several the least; -9; OUT NOW ...; LINEN of all not DONE together" */
  private static void dearestOfAll() {
    dearestIs("rb9;rr0;", 0, 2, 3);
    dearestIs("ru0;", 0, 1, 0);
    dearestIs("ru0;d0;", -9, 1, 0);
    dearestIs("rr0;rb9;", 1, 1, 3);
    dearestIs("rr0;rr0;", 0, 3, 2);
    dearestIs("rr0;rr0;d0;", 1, 3, 1);
    dearestIs("rp0;rp0;rp0;rp0;rp0;rp0;rp0;rp0;", 0, 255, 24);
    dearestIs("rp0;rp0;rp0;rp0;rp0;rp0;rp0;rp1;d0;t0010;", 1, 255, 21);
    dearestIs("ru0;ru0;ru0;ru0;ru0;ru0;ru0;rl9;t1999;", 7, 127, 2);
    dearestIs("rl9;rl9;c0;t0089;t1090;", 0, 0, 4);
    dearestIs("rl9;rl9;c0;t0090;", 0, 3, 4);
    dearestIs(EIGHT_PLAIN + "d0;d1;d2;d3;d4;d5;d6;d7;", -9, 255, 0);
  }

  /** "at how many of n MINUTES, from the CLOCK of MAID 0 on" */
  private static void overlap0To99() {
    BackFromBreakfast x = Check.told("rr1;rr1;t0001;");
    Check.due("n 0", x.overlap(0, 1, 0), 0);
    Check.due("n 1: 1", x.overlap(0, 1, 1), 1);
    Check.due("n 19: 1 .. 19", x.overlap(0, 1, 19), 19);
    Check.due("n 20: 20 is none", x.overlap(0, 1, 20), 19);
    Check.due("n 21: 21 is", x.overlap(0, 1, 21), 20);
    // 20, 40, 60, 80 of 1 .. 99
    Check.due("n 99", x.overlap(0, 1, 99), 95);
    Check.due("n 100", x.overlap(0, 1, 100), -6);
    Check.due("n -1", x.overlap(0, 1, -1), -4);
    Check.tell(x, "t0000;t1001;");
    Check.due("n 1: 0, by the CLOCK of MAID 0", x.overlap(0, 1, 1), 0);
    x = Check.told("rs0;rr0;rs9;rl9;");
    // 0 .. 9 and 9 .. 18 of 20
    Check.due("one MINUTE of them", x.overlap(0, 2, 20), 1);
    Check.due("9 is the tenth", x.overlap(0, 2, 9), 0);
    Check.due("9 is the tenth", x.overlap(0, 2, 10), 1);
    Check.due("90 .. 98", x.overlap(1, 3, 99), 9);
    Check.due("90 is the 91st", x.overlap(3, 1, 90), 0);
    Check.due("90 is the 91st", x.overlap(3, 1, 91), 1);
  }

  private static void twoAre(String text, int due) {
    Check.due(text + " two(0, 1)", Check.told(text).two(0, 1), due);
  }

  /** "the first pair ... by which neither is sooner by another one of hers alone; -9" */
  private static void twoWhoChoose() {
    // both 506; MAID 1 alone at the other one 10; alone 509, by both there 507; 510, by both 506; 507, alone 9
    twoAre("rr0;rr0;t0500;", -9);
    twoAre("rr0;rr0;t1500;", -9);
    twoAre("rr0;rr0;", 0);
    twoAre("rr0;c0;rr0;c1;m016;m126;", 1);
    twoAre("rr0;c0;rr0;c1;m026;m116;t0010;", 10);
    twoAre("rr0;rr0;c1;m026;m126;", 11);
    BackFromBreakfast x = Check.told(EIGHT_UNSLEPT);
    // both at the last: 11; alone at the first: 5, and by both there 4
    Check.due("the last and the first", x.two(7, 0), 11);
    Check.due("the first and the last", x.two(0, 7), 0);
  }

  // ---- nothing of a thought is left behind it

  private static BackFromBreakfast setting() {
    BackFromBreakfast x = Check.told("rr2;rl1;rp4;c1;rb3;d3;rs2;m023;m120;t0030;t1045;");
    x.image();
    Check.row(x, 2, 0, 9, 1, 4, 2);
    return x;
  }

  private static Map<String, ToLongFunction<BackFromBreakfast>> thoughts() {
    Map<String, ToLongFunction<BackFromBreakfast>> all = new LinkedHashMap<>();
    for (int what = 0; what <= 2; what++) {
      int w = what;
      all.put("bothLong " + w, x -> x.bothLong(2, w));
      all.put("share " + w, x -> x.share(21, w));
      all.put("tips " + w, x -> x.tips(w));
      all.put("dearest " + w, x -> x.dearest(w));
      for (int maid = 0; maid <= 1; maid++) {
        int m = maid;
        all.put("round " + m + w, x -> x.round(m, w));
        all.put("order " + m + w, x -> x.order(m, 21, w));
      }
    }
    for (int what = 0; what <= 1; what++) {
      int w = what;
      all.put("howLong " + w, x -> x.howLong(w, 2, 0));
      all.put("howLong of another " + w, x -> x.howLong(w, 0, 1));
      all.put("swap " + w, x -> x.swap(w));
      all.put("nearest " + w, x -> x.nearest(w));
      all.put("leastLoad " + w, x -> x.leastLoad(w));
      all.put("saves " + w, x -> x.saves(w));
      all.put("waitFor " + w, x -> x.waitFor(w, 2, 1));
      all.put("first " + w, x -> x.first(w));
      all.put("cardBest " + w, x -> x.cardBest(w));
      all.put("inspected " + w, x -> x.inspected(2, w));
      all.put("likely " + w, x -> x.likely(w, 3, 5, 0));
      all.put("mean " + w, x -> x.mean(w));
      all.put("whatIs " + w, x -> x.whatIs(0, w));
      all.put("lots " + w, x -> x.lots(7, 77, w));
    }
    all.put("out", x -> x.out(0, 33));
    all.put("nextOut", x -> x.nextOut(2, 3));
    all.put("together", x -> x.together(0, 2));
    all.put("overlap", x -> x.overlap(0, 2, 44));
    all.put("two", x -> x.two(0, 2));
    all.put("two of others", x -> x.two(4, 0));
    return all;
  }

  private static Map<String, ToLongFunction<BackFromBreakfast>> deeds() {
    Map<String, ToLongFunction<BackFromBreakfast>> all = new LinkedHashMap<>();
    all.put("visits(0, 2)", x -> x.visits(0, 2));
    all.put("visits(1, 0)", x -> x.visits(1, 0));
    all.put("both(0)", x -> x.both(0));
    all.put("down(0)", x -> x.down(0));
    all.put("down(1)", x -> x.down(1));
    all.put("stays(1, 9)", x -> x.stays(1, 9));
    all.put("places(0, 5, 1)", x -> x.places(0, 5, 1));
    all.put("turn(4, 0, 0)", x -> x.turn(4, 0, 0));
    all.put("card(0)", x -> x.card(0));
    all.put("undo(3)", x -> x.undo(3));
    all.put("corridor", x -> Check.tell(x, "ru3;v05;b0;m111;t0100;"));
    all.put("image", x -> x.image());
    all.put("on", x -> x.on());
    all.put("judge", x -> x.judge());
    all.put("clear", x -> x.clear());
    return all;
  }

  /** What a thought or a deed answers and leaves is the same, whatever was thought ahead of it. */
  private static void thoughtsLeaveNothing() {
    Map<String, ToLongFunction<BackFromBreakfast>> all = thoughts();
    for (Map.Entry<String, ToLongFunction<BackFromBreakfast>> one : all.entrySet()) {
      for (Map.Entry<String, ToLongFunction<BackFromBreakfast>> other : all.entrySet()) {
        leavesNothing(one, other, false);
      }
      for (Map.Entry<String, ToLongFunction<BackFromBreakfast>> deed : deeds().entrySet()) {
        leavesNothing(one, deed, true);
      }
    }
  }

  private static void leavesNothing(Map.Entry<String, ToLongFunction<BackFromBreakfast>> ahead,
      Map.Entry<String, ToLongFunction<BackFromBreakfast>> call, boolean all) {
    BackFromBreakfast x = setting();
    BackFromBreakfast twin = setting();
    ahead.getValue().applyAsLong(x);
    String when = call.getKey() + " behind " + ahead.getKey();
    Check.due(when, call.getValue().applyAsLong(x), call.getValue().applyAsLong(twin));
    if (all) {
      Check.holds(when + " leaves the same", Check.spent(x).equals(Check.spent(twin)));
    }
  }
}
