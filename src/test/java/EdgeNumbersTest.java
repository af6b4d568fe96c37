/** The numbers at the edges of fractions, of the ROW, of LOTS, of THE IMAGE and of what is counted: promises 33 to 43. */
public final class EdgeNumbersTest {
  private static final String EIGHT_UNSLEPT = "ru0;ru0;ru0;ru0;ru0;ru0;ru0;ru0;";

  public static void main(String[] args) {
    inspectedNoneToEight();
    likelyNoneToEight();
    likelyTwoToTwenty();
    likelyOfDoneRooms();
    meanOfNoneToEight();
    whatIsByAnEmptyRow();
    whatIsByMinutes0To99();
    whatIsByEachPairOfEight();
    whatIsOfAllFigures();
    rowOfNoneTo16();
    judgeTheFirstAndTheLastPlace();
    clearOfNoneTo16();
    lotsOneToTwenty();
    lotsWithSeedsThatWrapAround();
    lotsOfEightRooms();
    drawsByNumbers();
    theImageOfNothing();
    theImageOfAllThereIs();
    theImageTakenAgain();
    whatTheImageHasNot();
    countsOfAll();
    refusalsOfEachNumber();
    Check.end("EdgeNumbersTest");
  }

  private static void inspectedIs(BackFromBreakfast x, int k, long above, long below) {
    Check.due("inspected(" + k + ", 0)", x.inspected(k, 0), above);
    Check.due("inspected(" + k + ", 1)", x.inspected(k, 1), below);
  }

  /** "k of all ROOMS ...: how likely one at least of these is not DONE", "Fractions in least terms (0 by 1, if nothing)" */
  private static void inspectedNoneToEight() {
    BackFromBreakfast x = new BackFromBreakfast();
    inspectedIs(x, 0, 0, 1);
    Check.due("more than no ROOMS", x.inspected(1, 0), 4000000000000000003L);
    x = Check.told(EIGHT_UNSLEPT);
    inspectedIs(x, 0, 0, 1);
    for (int k = 1; k <= 8; k++) {
      inspectedIs(x, k, 1, 1);
    }
    Check.due("more than 8", x.inspected(9, 0), 4000000000000000006L);
    // one is not DONE: k of 8
    Check.tell(x, "d0;d1;d2;d3;d4;d5;d6;");
    inspectedIs(x, 1, 1, 8);
    inspectedIs(x, 2, 1, 4);
    inspectedIs(x, 3, 3, 8);
    inspectedIs(x, 4, 1, 2);
    inspectedIs(x, 5, 5, 8);
    inspectedIs(x, 6, 3, 4);
    inspectedIs(x, 7, 7, 8);
    inspectedIs(x, 8, 1, 1);
    // all are DONE: nothing
    x.undo(7);
    for (int k = 0; k <= 8; k++) {
      inspectedIs(x, k, 0, 1);
    }
    // four are: 1 less 1 by 70, and five can't be all DONE
    Check.tell(x, "d0;d2;d4;d6;");
    inspectedIs(x, 4, 69, 70);
    inspectedIs(x, 5, 1, 1);
    inspectedIs(x, 3, 13, 14);
    inspectedIs(x, 1, 1, 2);
    // a ROOM with a CARD is as any other
    x.card(0);
    inspectedIs(x, 1, 1, 2);
    x = Check.told("rr0;rr0;rr0;");
    inspectedIs(x, 3, 1, 1);
    Check.due("more than ROOMS", x.inspected(4, 0), 4000000000000000003L);
  }

  private static void likelyIs(BackFromBreakfast x, int v, int t, long above, long below) {
    for (int maid = 0; maid < 2; maid++) {
      Check.due("likely(" + maid + ", " + v + ", " + t + ", 0)", x.likely(maid, v, t, 0), above);
      Check.due("likely(" + maid + ", " + v + ", " + t + ", 1)", x.likely(maid, v, t, 1), below);
    }
  }

  /** "how likely v ROOMS or more are DONE": of 256 alike cases 1, 8, 28, 56, 70, 56, 28, 8, 1 */
  private static void likelyNoneToEight() {
    BackFromBreakfast x = Check.told(EIGHT_UNSLEPT);
    likelyIs(x, 0, 2, 1, 1);
    likelyIs(x, 1, 2, 255, 256);
    likelyIs(x, 2, 2, 247, 256);
    likelyIs(x, 3, 2, 219, 256);
    likelyIs(x, 4, 2, 163, 256);
    likelyIs(x, 5, 2, 93, 256);
    likelyIs(x, 6, 2, 37, 256);
    likelyIs(x, 7, 2, 9, 256);
    likelyIs(x, 8, 2, 1, 256);
    x = new BackFromBreakfast();
    likelyIs(x, 0, 2, 1, 1);
    for (int v = 1; v <= 8; v++) {
      likelyIs(x, v, 2, 0, 1);
    }
    x = Check.told("ru0;ru0;");
    likelyIs(x, 3, 2, 0, 1);
    likelyIs(x, 8, 2, 0, 1);
  }

  /** "with odds 1 in t (2 .. 20)" */
  private static void likelyTwoToTwenty() {
    BackFromBreakfast x = Check.told("ru0;");
    for (int t = 2; t <= 20; t++) {
      likelyIs(x, 1, t, t - 1, t);
    }
    Check.due("t 1", x.likely(0, 1, 1, 0), 4000000000000000004L);
    Check.due("t 21", x.likely(0, 1, 21, 0), 4000000000000000006L);
    x = Check.told(EIGHT_UNSLEPT);
    likelyIs(x, 8, 3, 256, 6561);
    likelyIs(x, 7, 3, 256 + 8 * 128, 6561);
    // 19 and 20 to the 8: greater than an int holds
    likelyIs(x, 8, 20, 16983563041L, 25600000000L);
    // 27 times 19 to the 7, by 20 to the 8
    likelyIs(x, 7, 20, 27L * 893871739L, 25600000000L);
    likelyIs(x, 1, 20, 25599999999L, 25600000000L);
  }

  /** What is DONE is DONE, whoever is in; nobody works where there is a CARD. */
  private static void likelyOfDoneRooms() {
    BackFromBreakfast x = Check.told(EIGHT_UNSLEPT + "d0;d1;d2;d3;d4;d5;d6;d7;");
    likelyIs(x, 8, 2, 1, 1);
    x.undo(3);
    likelyIs(x, 8, 2, 1, 2);
    likelyIs(x, 7, 2, 1, 1);
    x.card(3);
    likelyIs(x, 8, 2, 0, 1);
    likelyIs(x, 7, 2, 1, 1);
    // in by his habit, he is not out by any odds
    x = Check.told("rl9;ru0;");
    likelyIs(x, 1, 4, 3, 4);
    likelyIs(x, 2, 4, 0, 1);
  }

  private static void meanIs(String text, long above, long below) {
    BackFromBreakfast x = text.isEmpty() ? new BackFromBreakfast() : Check.told(text);
    Check.due(text + " mean(0)", x.mean(0), above);
    Check.due(text + " mean(1)", x.mean(1), below);
  }

  /** "MEAN WORK of ROOMS not DONE: a fraction (0 by 1 of none)" */
  private static void meanOfNoneToEight() {
    meanIs("", 0, 1);
    meanIs("ru0;d0;", 0, 1);
    meanIs("ru0;", 3, 1);
    meanIs(EIGHT_UNSLEPT, 3, 1);
    meanIs(EIGHT_UNSLEPT + "d0;d1;d2;d3;d4;d5;d6;d7;", 0, 1);
    meanIs("rb9;rb9;rb9;rb9;rb9;rb9;rb9;rb8;", 127, 8);
    meanIs("rr0;ru0;ru0;", 13, 3);
    meanIs("rr0;ru0;c1;", 5, 1);
    meanIs("rr0;rb0;rl0;rl0;", 17, 2);
  }

  private static void byRow(BackFromBreakfast x, int room, int kinds, int figures) {
    Check.due("whatIs(" + room + ", 0)", x.whatIs(room, 0), kinds);
    Check.due("whatIs(" + room + ", 1)", x.whatIs(room, 1), figures);
  }

  /** By no pairs all of them are so. */
  private static void whatIsByAnEmptyRow() {
    BackFromBreakfast x = Check.told("rr5;ru0;");
    byRow(x, 0, 127, 1023);
    byRow(x, 1, 127, 1023);
    x.row(5);
    Check.due("one number is unwhole", x.whatIs(0, 0), -3);
    x.clear();
    byRow(x, 0, 127, 1023);
  }

  /** "a MINUTE and whether the guest of a ROOM was OUT then (0 not, else OUT)" */
  private static void whatIsByMinutes0To99() {
    BackFromBreakfast x = Check.told("rr5;rs5;ra9;ru5;");
    // OUT at 99: 19 of 20 is not below FIGURE, 99 not below 50; it is odd; 114 of 20 is 14
    Check.row(x, 99, 1);
    byRow(x, 0, 1 + 2 + 32 + 64, 1023);
    Check.row(x, 99, 0);
    byRow(x, 0, 4 + 8 + 16, 0);
    // a STAYING one: OUT at 99 by none of FIGURES 0 .. 9 (19, 18 .. 10)
    byRow(x, 1, 4 + 8 + 16, 1023);
    Check.row(x, 99, 99);
    byRow(x, 1, 1 + 2 + 32 + 64, 0);
    Check.row(x, 99, 2);
    byRow(x, 0, 1 + 2 + 32 + 64, 1023);
    Check.row(x, 0, 0);
    byRow(x, 0, 63, 1022);
    Check.row(x, 0, 1);
    byRow(x, 0, 64, 1);
    // LATE: 90 of all, 88 of 0 .. 8, 89 of none
    Check.row(x, 90, 1);
    Check.due("LATE at 90", x.whatIs(2, 1), 1023);
    Check.row(x, 88, 1);
    Check.due("LATE at 88", x.whatIs(2, 1), 511);
    Check.row(x, 89, 1);
    Check.due("LATE at 89", x.whatIs(2, 1), 0);
    // UNSLEPT: always, by any FIGURE
    Check.due("UNSLEPT out", x.whatIs(3, 1), 1023);
    Check.row(x, 89, 0);
    Check.due("UNSLEPT in", x.whatIs(3, 1), 0);
  }

  /** All of the ROW counts, the first of its 8 pairs as the last. */
  private static void whatIsByEachPairOfEight() {
    BackFromBreakfast x = Check.told("rr5;");
    for (int pair = 0; pair < 8; pair++) {
      x.clear();
      for (int i = 0; i < 8; i++) {
        x.row(5);
        x.row(i == pair ? 0 : 1);
      }
      byRow(x, 0, 0, 0);
      Check.due("the ROW stays", x.count(6), 16);
    }
    Check.row(x, 5, 1, 5, 1, 5, 1, 5, 1, 5, 1, 5, 1, 5, 1, 5, 1);
    // FIGURE 5 at 5: r, s, b, u
    byRow(x, 0, 1 + 4 + 16 + 64, 63);
    Check.row(x, 5, 1, 5, 1, 5, 1, 5, 1, 5, 1, 5, 1, 5, 1, 5);
    Check.due("15 numbers are unwhole", x.whatIs(0, 0), -3);
    Check.due("15 numbers are unwhole", x.whatIs(0, 1), -3);
  }

  private static void whatIsOfAllFigures() {
    BackFromBreakfast x = new BackFromBreakfast();
    Check.tell(x, "rr0;rl0;rs9;");
    for (int figure = 1; figure <= 9; figure++) {
      // in a MINUTE ahead, out at it: this FIGURE alone
      Check.row(x, figure - 1, 0, figure, 1);
      Check.due("ROOM, FIGURE " + figure, x.whatIs(0, 1), 1 << figure);
      Check.due("STAYING, FIGURE " + figure, x.whatIs(2, 1), 1 << figure);
      Check.row(x, 10 * figure - 1, 0, 10 * figure, 1);
      Check.due("LEFT, FIGURE " + figure, x.whatIs(1, 1), 1 << figure);
    }
    Check.row(x, 19, 0, 20, 1);
    Check.due("STAYING, FIGURE 0", x.whatIs(2, 1), 1);
  }

  /** "A number more of the ROW (0 .. 99) ... -4; -6 (99; 16, too)" */
  private static void rowOfNoneTo16() {
    for (int v = 0; v <= 99; v++) {
      Check.due("row(" + v + ")", new BackFromBreakfast().row(v), 1);
    }
    BackFromBreakfast x = new BackFromBreakfast();
    Check.due("row(-1)", x.row(-1), -4);
    Check.due("row(100)", x.row(100), -6);
    for (int i = 1; i <= 16; i++) {
      Check.due("number " + i, x.row(0), i);
    }
    Check.due("number 17", x.row(0), -6);
    Check.due("number 17, 99", x.row(99), -6);
    Check.due("number 17, -1", x.row(-1), -4);
    Check.due("16 they are", x.count(6), 16);
    Check.due("judge: no ROOM", x.judge(), 0);
    Check.due("number 1 again", x.row(99), 1);
  }

  private static void judged(BackFromBreakfast x, int due, int... row) {
    Check.row(x, row);
    Check.due("judge() of " + row.length, x.judge(), due);
    Check.due("the ROW has none then", x.count(6), 0);
    Check.due("and is judged so", x.judge(), -9);
  }

  /** "its first place which is no ROOM or a ROOM that is not DONE behind it all; -9" */
  private static void judgeTheFirstAndTheLastPlace() {
    judged(new BackFromBreakfast(), -9);
    judged(new BackFromBreakfast(), 0, 0);
    BackFromBreakfast x = Check.told(EIGHT_UNSLEPT + "c5;");
    judged(x, -9);
    judged(x, -9, 7);
    judged(x, 0, 8);
    judged(x, 0, 99);
    judged(x, 0, 5);
    judged(x, 0, 5, 8);
    judged(x, 0, 8, 5);
    judged(x, 1, 0, 8, 1);
    judged(x, -9, 0, 1, 2, 3, 4, 6, 7, 0, 1, 2, 3, 4, 6, 7, 0, 1);
    judged(x, 15, 0, 1, 2, 3, 4, 6, 7, 0, 1, 2, 3, 4, 6, 7, 0, 5);
    judged(x, 15, 0, 1, 2, 3, 4, 6, 7, 0, 1, 2, 3, 4, 6, 7, 0, 8);
    judged(x, 14, 0, 1, 2, 3, 4, 6, 7, 0, 1, 2, 3, 4, 6, 7, 9, 5);
    // numbers that would be DONE ROOMS, if 32 or 64 or 96 less were they
    judged(x, 1, 0, 32);
    judged(x, 2, 1, 0, 64);
    judged(x, 1, 0, 96);
    judged(x, 1, 3, 35);
    judged(x, 1, 3, 99);
    // DONE behind it all: in at first, out when she comes again; DONE ahead of it, with a CARD
    x = Check.told("rr9;ru0;t0000;");
    judged(x, -9, 0, 1, 0);
    judged(x, 0, 0, 1);
    x = Check.told("rr9;c0;d0;");
    judged(x, -9, 0);
  }

  private static void clearOfNoneTo16() {
    BackFromBreakfast x = new BackFromBreakfast();
    for (int n = 0; n <= 16; n++) {
      for (int i = 0; i < n; i++) {
        x.row(i);
      }
      Check.due("clear() of " + n, x.clear(), n);
      Check.due("in the ROW", x.count(6), 0);
      Check.due("clear() again", x.clear(), 0);
    }
  }

  private static void lotsAre(BackFromBreakfast x, int n, int z, int done, int minutes) {
    Check.due("lots(" + n + ", " + z + ", 0)", x.lots(n, z, 0), done);
    Check.due("lots(" + n + ", " + z + ", 1)", x.lots(n, z, 1), minutes);
  }

  /**
   * "n mornings (1 .. 20)": she knocks at 2, so that a DRAW of 0, 1, 2 is a ROOM more and 9 MINUTES, else 2.
   * DRAWS by 0: 3 7 6 9 9 0 4 7 4 5 7 9 3 4 3 6 9 2 1 0
   */
  private static void lotsOneToTwenty() {
    BackFromBreakfast x = Check.told("rr5;");
    lotsAre(x, 1, 0, 0, 2);
    lotsAre(x, 5, 0, 0, 10);
    lotsAre(x, 6, 0, 1, 10 + 9);
    lotsAre(x, 17, 0, 1, 16 * 2 + 9);
    lotsAre(x, 18, 0, 2, 16 * 2 + 18);
    lotsAre(x, 19, 0, 3, 16 * 2 + 27);
    lotsAre(x, 20, 0, 4, 16 * 2 + 36);
    Check.due("n 0", x.lots(0, 0, 0), -4);
    Check.due("n 21", x.lots(21, 0, 0), -6);
    // the seed is not kept, nor the FIGURE
    lotsAre(x, 20, 0, 4, 68);
    Check.due("FIGURE", x.room(0, 1), 5);
    // DONE before: it is DONE behind each morning, a STEP each
    x.undo(0);
    lotsAre(x, 20, 0, 20, 20);
    x.undo(0);
    x.card(0);
    lotsAre(x, 20, 0, 0, 20);
    lotsAre(new BackFromBreakfast(), 20, 1, 0, 0);
  }

  /**
   * "z becomes z times 1664525 and 1013904223 (an int); (z without its sign's bit by 256, cut) modulo m".
   * DRAWS by -1, 2147483647: 1 0 6 7 8 9 0 7 7 9 2 5 7 1 5 4 8 3 9 4, by 1: 5 3 9 0 1 9 7 7 0 0 2 3 9 8 9 6 0 0 5 6,
   * by 12345: 0 6 4 4 3 3 3 9 2 8 4 5 4 6 8 4 9 7 1 2.
   */
  private static void lotsWithSeedsThatWrapAround() {
    BackFromBreakfast x = Check.told("rr5;");
    lotsAre(x, 1, -1, 1, 9);
    lotsAre(x, 2, -1, 2, 18);
    lotsAre(x, 3, -1, 2, 20);
    lotsAre(x, 20, -1, 5, 5 * 9 + 15 * 2);
    // -1135243950, without its sign's bit 1012239698, by 256 3954061: 1
    lotsAre(x, 1, Integer.MAX_VALUE, 1, 9);
    lotsAre(x, 20, Integer.MAX_VALUE, 5, 75);
    // -1133579425, without its sign's bit 1013904223, by 256 3960563: 3
    lotsAre(x, 1, Integer.MIN_VALUE, 0, 2);
    lotsAre(x, 20, Integer.MIN_VALUE, 4, 68);
    lotsAre(x, 20, 1, 7, 7 * 9 + 13 * 2);
    lotsAre(x, 20, 12345, 4, 68);
  }

  private static void lotsOfEightRooms() {
    BackFromBreakfast x = Check.told(EIGHT_UNSLEPT);
    lotsAre(x, 1, 0, 8, 40);
    lotsAre(x, 20, 0, 160, 800);
    lotsAre(x, 20, Integer.MIN_VALUE, 160, 800);
  }

  /** "FIGURE of each ROOM, by numbers" */
  private static void drawsByNumbers() {
    BackFromBreakfast x = Check.told("rr0;rr0;rl0;c2;rb0;");
    // DRAWS by 0: 3 7 6 9, one for the CARD, too; knock at 2 and at 4 in vain, 5, knock at 7: 9 .. 18 it would be
    lotsAre(x, 1, 0, 0, 7);
    // 2 MINUTES later: 3, knock 4, 11; 12, knock 13, 20; 21; 22, knock 23 in vain
    x.stays(0, 2);
    lotsAre(x, 1, 0, 2, 2 + 7 + 2 + 7 + 1 + 2);
  }

  /** Promises 41, 42 of a new object. */
  private static void theImageOfNothing() {
    BackFromBreakfast x = new BackFromBreakfast();
    Check.due("on()", x.on(), -3);
    Check.due("image()", x.image(), 0);
    Check.due("on()", x.on(), 0);
    Check.tell(x, EIGHT_UNSLEPT + "d0;c1;m085;m180;t0999;t1998;");
    Check.due("on()", x.on(), 0);
    Check.due("no ROOMS", x.count(0), 0);
    Check.due("none DONE", x.count(1), 0);
    Check.due("no CARDS", x.count(2), 0);
    Check.holds("both MAIDS as at first", Check.state(x).equals("0 6 0 0 6 0 "));
    Check.due("PLACE 1 is none", x.places(0, 1, 0), -1);
    Check.due("room(0, 0)", x.room(0, 0), -1);
  }

  /** "all that there is": ROOMS up to the eighth, AT, LOAD, CLOCK at their edges. */
  private static void theImageOfAllThereIs() {
    BackFromBreakfast x = Check.told("rr0;rl1;rs2;ra3;rb4;rp5;ru6;rr9;c0;c7;d1;d7;m080;m106;t0999;t1000;");
    String then = Check.state(x);
    Check.due("image()", x.image(), 2);
    for (int room = 0; room < 8; room++) {
      x.turn(room, 6 - room % 7, 9 - room);
      x.card(room);
      x.undo(room);
    }
    x.places(0, 0, 6);
    x.places(1, 8, 0);
    x.stays(1, 60);
    Check.tell(x, "t0001;");
    Check.due("six are DONE now", x.count(3), 6);
    Check.due("on()", x.on(), 2);
    Check.holds("all is as then", then.equals(Check.state(x)));
    Check.due("CARDS", x.count(2), 129);
    Check.due("DONE", x.count(1), 130);
    // from it on all goes as it went
    Check.due("CLOCK 999", x.stays(0, 1), -6);
    Check.due("CLOCK 0", x.stays(1, 1), 1);
    Check.due("on() again", x.on(), 2);
    Check.holds("all is as then again", then.equals(Check.state(x)));
    x = Check.told(EIGHT_UNSLEPT + "d0;d1;d2;d3;d4;d5;d6;d7;");
    Check.due("image() of 8", x.image(), 8);
    x.undo(0);
    Check.due("on() to 8", x.on(), 8);
  }

  private static void theImageTakenAgain() {
    BackFromBreakfast x = Check.told("rr0;");
    Check.due("one", x.image(), 0);
    Check.tell(x, "rr0;d0;");
    Check.due("another", x.image(), 1);
    Check.tell(x, "rr0;d1;");
    Check.due("on()", x.on(), 1);
    Check.due("two ROOMS", x.count(0), 2);
    Check.due("on() is no image", x.on(), 1);
    x.undo(1);
    Check.due("image() behind on()", x.image(), 2);
    x.undo(0);
    Check.due("on()", x.on(), 2);
  }

  /** "but it, the ROW, letters, REFUSALS" */
  private static void whatTheImageHasNot() {
    BackFromBreakfast x = Check.told("rr0;");
    x.row(0);
    x.letter('d');
    x.card(9);
    x.image();
    x.clear();
    x.row(7);
    x.row(8);
    x.letter('0');
    x.mean(2);
    x.row(-1);
    x.on();
    Check.due("the ROW", x.count(6), 2);
    Check.due("letters", x.count(7), 2);
    Check.holds("REFUSALS", Check.refusals(x).equals("1 1 0 1 0 0 "));
    Check.due("judged", x.judge(), 0);
    x.letter(';');
    Check.due("told", x.corridor(), 1);
    Check.due("DONE", x.count(1), 1);
    // the ROW is there behind ON, though it had none then
    x = new BackFromBreakfast();
    x.image();
    x.row(5);
    x.letter(';');
    x.on();
    Check.due("the ROW", x.count(6), 1);
    Check.due("letters", x.count(7), 1);
  }

  /** Promise 43: 0 .. 7 at their edges, "-9 for another what" */
  private static void countsOfAll() {
    BackFromBreakfast x = new BackFromBreakfast();
    Check.tell(x, EIGHT_UNSLEPT + "c0;c1;c2;c3;c4;c5;c6;c7;");
    Check.tell(x, "d0;d1;d2;d3;d4;d5;d6;d7;t0998;t1999;");
    Check.due("ROOMS", x.count(0), 8);
    Check.due("DONE", x.count(1), 255);
    Check.due("CARDS", x.count(2), 255);
    Check.due("how many are DONE", x.count(3), 8);
    Check.due("the later CLOCK", x.count(4), 999);
    Check.due("both LOADS", x.count(5), 12);
    Check.tell(x, "t0999;t1998;m000;m100;");
    Check.due("the later CLOCK", x.count(4), 999);
    Check.due("both LOADS", x.count(5), 0);
    Check.tell(x, "t0000;t1000;m006;");
    Check.due("the later CLOCK", x.count(4), 0);
    Check.due("both LOADS", x.count(5), 6);
    for (int i = 0; i < 16; i++) {
      x.row(i);
    }
    for (int i = 0; i < 96; i++) {
      x.letter(i);
    }
    Check.due("in the ROW", x.count(6), 16);
    Check.due("letters", x.count(7), 96);
    for (int what : new int[] {-1, 8, 9, 10, 17, 18, 32, -10, Integer.MIN_VALUE, Integer.MAX_VALUE}) {
      Check.due("count(" + what + ")", x.count(what), -9);
    }
    Check.holds("no REFUSALS by it", Check.refusals(x).equals("0 0 0 0 0 0 "));
  }

  private static void refusalsOfEachNumber() {
    BackFromBreakfast x = new BackFromBreakfast();
    x.room(0, 0);
    Check.holds("-1", Check.refusals(x).equals("1 0 0 0 0 0 "));
    x.tips(3);
    Check.holds("-2", Check.refusals(x).equals("1 1 0 0 0 0 "));
    x.on();
    Check.holds("-3", Check.refusals(x).equals("1 1 1 0 0 0 "));
    x.stays(0, 0);
    Check.holds("-4", Check.refusals(x).equals("1 1 1 1 0 0 "));
    x.stays(0, 61);
    Check.holds("-6", Check.refusals(x).equals("1 1 1 1 0 1 "));
    x.mean(2);
    Check.holds("-2 of longs", Check.refusals(x).equals("1 2 1 1 0 1 "));
    x.inspected(1, 0);
    Check.holds("-3 of longs", Check.refusals(x).equals("1 2 2 1 0 1 "));
    x.likely(2, 0, 2, 0);
    Check.holds("-1 of longs", Check.refusals(x).equals("2 2 2 1 0 1 "));
    x.likely(0, -1, 2, 0);
    Check.holds("-4 of longs", Check.refusals(x).equals("2 2 2 2 0 1 "));
    x.likely(0, 9, 2, 0);
    Check.holds("-6 of longs", Check.refusals(x).equals("2 2 2 2 0 2 "));
  }
}
