/** The numbers at the edges of KINDS, VISITS and of what is done in truth: Terms, promises 4 to 13. */
public final class EdgeTruthTest {
  public static void main(String[] args) {
    aRoomIsOutFromItsFigureOn();
    aLeftOneIsOutFromTenTimesItsFigureOn();
    aLateOneAtEvenMinutesAlone();
    aStayingOneForTenOfTwenty();
    aSandyOneAsAStayingOne();
    aPipeOneAsALeftOne();
    anUnsleptOneAlways();
    workByCut();
    linenAndTips();
    stepsToThePlaces();
    loadBelowLinen();
    loadOfMaid0ByBoth();
    halfTheWorkCutAndOne();
    guestsInAtTheKnockAndBehindLinen();
    doneWhateverTheClocks();
    bothClocksBecomeTheLater();
    cardAndUndoAtAllRooms();
    turnToAllKindsAndFigures();
    placesAndLoads();
    staysOneToSixty();
    staysUpTo999();
    visitsUpTo999();
    bothUpTo999();
    downUpTo999();
    downFromAllPlaces();
    the512thCall();
    Check.end("EdgeTruthTest");
  }

  /** One sign for each MINUTE from the first on: 1 OUT, 0 not. */
  private static void outs(String room, int from, String minutes) {
    BackFromBreakfast x = Check.told("rr0;" + room);
    for (int i = 0; i < minutes.length(); i++) {
      Check.due(room + " out(1, " + (from + i) + ")", x.out(1, from + i), minutes.charAt(i) - '0');
    }
  }

  /** "r ROOM: t modulo 20 is FIGURE or more" */
  private static void aRoomIsOutFromItsFigureOn() {
    outs("rr0;", 0, "1111111111" + "1111111111" + "1111111111");
    outs("rr1;", 0, "0111111111" + "1111111111" + "0111111111" + "1111111111" + "0");
    outs("rr5;", 0, "0000011111" + "1111111111" + "0000011111");
    outs("rr9;", 0, "0000000001" + "1111111111" + "0000000001" + "1111111111" + "0");
    outs("rr9;", 979, "1" + "0000000001" + "1111111111");
  }

  /** "l LEFT under ROOM: t is 10 times FIGURE or more" */
  private static void aLeftOneIsOutFromTenTimesItsFigureOn() {
    outs("rl0;", 0, "11");
    outs("rl1;", 8, "0011");
    outs("rl1;", 19, "111");
    outs("rl5;", 48, "0011");
    outs("rl9;", 88, "0011");
    outs("rl9;", 998, "11");
    outs("rl9;", 0, "0");
  }

  /** "a LATE under LEFT: as a LEFT, but at even MINUTES alone" */
  private static void aLateOneAtEvenMinutesAlone() {
    outs("ra0;", 0, "1010");
    outs("ra1;", 7, "000101");
    outs("ra9;", 86, "00001010");
    outs("ra9;", 998, "10");
  }

  /** "s STAYING under ROOM: (t and 20, less FIGURE) modulo 20 is below 10" */
  private static void aStayingOneForTenOfTwenty() {
    outs("rs0;", 0, "1111111111" + "0000000000" + "1111111111" + "0000000000" + "1");
    outs("rs1;", 0, "0111111111" + "1000000000" + "0111111111" + "1");
    outs("rs5;", 0, "0000011111" + "1111100000" + "0000011111");
    outs("rs9;", 0, "0000000001" + "1111111110" + "0000000001" + "1111111110" + "0");
    outs("rs9;", 980, "0000000001" + "1111111110");
  }

  /** "b SANDY under STAYING: as a STAYING one" */
  private static void aSandyOneAsAStayingOne() {
    outs("rb0;", 0, "1111111111" + "0000000000" + "1");
    outs("rb9;", 0, "0000000001" + "1111111110" + "0000000001");
  }

  /** "p PIPE under LEFT: as a LEFT" */
  private static void aPipeOneAsALeftOne() {
    outs("rp0;", 0, "1111");
    outs("rp1;", 8, "001111");
    outs("rp9;", 88, "001111");
  }

  /** "u UNSLEPT under ROOM: always" */
  private static void anUnsleptOneAlways() {
    outs("ru0;", 0, "11");
    outs("ru9;", 0, "1111111111" + "1111111111" + "11");
    outs("ru9;", 997, "111");
  }

  private static void ofAll(String kind, int what, int... byFigure) {
    for (int figure = 0; figure <= 9; figure++) {
      BackFromBreakfast x = Check.told("r" + kind + figure + ";");
      Check.due("room(0, " + what + ") of " + kind + figure, x.room(0, what), byFigure[figure]);
    }
  }

  /** "7", "3 more", "as a ROOM", "FIGURE more", "FIGURE by 2, cut, more", "a ROOM's by 2, cut" */
  private static void workByCut() {
    ofAll("r", 4, 7, 7, 7, 7, 7, 7, 7, 7, 7, 7);
    ofAll("l", 4, 10, 10, 10, 10, 10, 10, 10, 10, 10, 10);
    ofAll("s", 4, 7, 7, 7, 7, 7, 7, 7, 7, 7, 7);
    ofAll("a", 4, 10, 10, 10, 10, 10, 10, 10, 10, 10, 10);
    ofAll("b", 4, 7, 8, 9, 10, 11, 12, 13, 14, 15, 16);
    ofAll("p", 4, 10, 10, 11, 11, 12, 12, 13, 13, 14, 14);
    ofAll("u", 4, 3, 3, 3, 3, 3, 3, 3, 3, 3, 3);
  }

  private static void linenAndTips() {
    ofAll("r", 5, 1, 1, 1, 1, 1, 1, 1, 1, 1, 1);
    ofAll("l", 5, 2, 2, 2, 2, 2, 2, 2, 2, 2, 2);
    ofAll("s", 5, 1, 1, 1, 1, 1, 1, 1, 1, 1, 1);
    ofAll("a", 5, 2, 2, 2, 2, 2, 2, 2, 2, 2, 2);
    ofAll("b", 5, 2, 2, 2, 2, 2, 2, 2, 2, 2, 2);
    ofAll("p", 5, 3, 3, 3, 3, 3, 3, 3, 3, 3, 3);
    ofAll("u", 5, 0, 0, 0, 0, 0, 0, 0, 0, 0, 0);
    ofAll("r", 6, 0, 1, 2, 3, 4, 5, 6, 7, 8, 9);
    ofAll("l", 6, 0, 1, 2, 3, 4, 5, 6, 7, 8, 9);
    ofAll("s", 6, 0, 0, 0, 0, 0, 0, 0, 0, 0, 0);
    ofAll("a", 6, 0, 2, 4, 6, 8, 10, 12, 14, 16, 18);
    ofAll("b", 6, 3, 3, 3, 3, 3, 3, 3, 3, 3, 3);
    ofAll("p", 6, 1, 2, 3, 4, 5, 6, 7, 8, 9, 10);
    ofAll("u", 6, 0, 1, 2, 3, 4, 5, 6, 7, 8, 9);
  }

  private static void maidIs(String when, BackFromBreakfast x, int maid, int at, int load, int clock) {
    Check.due(when + ": AT of " + maid, x.maid(maid, 0), at);
    Check.due(when + ": LOAD of " + maid, x.maid(maid, 1), load);
    Check.due(when + ": CLOCK of " + maid, x.maid(maid, 2), clock);
  }

  /** "ROOM r at PLACE r and 1 ... a STEP to the next PLACE takes 1 MINUTE" */
  private static void stepsToThePlaces() {
    BackFromBreakfast x = Check.told("rr0;rr0;rr0;rr0;rr0;rr0;rr0;rr0;c0;c7;");
    Check.due("to the last", x.visits(0, 7), 0);
    maidIs("to the last", x, 0, 8, 6, 8);
    Check.due("no STEP", x.visits(0, 7), 0);
    maidIs("no STEP", x, 0, 8, 6, 8);
    Check.due("back to the first", x.visits(0, 0), 0);
    maidIs("back to the first", x, 0, 1, 6, 15);
    Check.due("of MAID 1", x.visits(1, 0), 0);
    maidIs("of MAID 1", x, 1, 1, 6, 1);
  }

  private static void visited(String text, int load, int clock) {
    BackFromBreakfast x = Check.told(text);
    Check.due(text + " visits(0, 0)", x.visits(0, 0), 3);
    maidIs(text, x, 0, 1, load, clock);
  }

  /** "if her LOAD is below LINEN, she goes down and comes back: twice the PLACE and 4 MINUTES, her LOAD is 6 then" */
  private static void loadBelowLinen() {
    // a STEP, knock, WORK with just the LINEN; with 1 less 6 MINUTES more, and 6 less LINEN is left
    visited("rr0;m001;", 0, 9);
    visited("rr0;m000;", 5, 15);
    visited("rl0;m002;", 0, 12);
    visited("rl0;m001;", 4, 18);
    visited("rs0;m001;", 0, 9);
    visited("rs0;m000;", 5, 15);
    visited("ra0;m002;", 0, 12);
    visited("ra0;m001;", 4, 18);
    visited("rb0;m002;", 0, 9);
    visited("rb0;m001;", 4, 15);
    visited("rp0;m003;", 0, 12);
    visited("rp0;m002;", 3, 18);
    visited("rp0;m000;", 3, 18);
    visited("ru0;m000;", 0, 5);
    visited("rr0;m006;", 5, 9);
    // at the last PLACE: 8, knock, 20 MINUTES for linen, WORK
    BackFromBreakfast x = Check.told("ru0;ru0;ru0;ru0;ru0;ru0;ru0;rr0;m000;");
    Check.due("at PLACE 8", x.visits(0, 7), 3);
    maidIs("at PLACE 8", x, 0, 8, 5, 8 + 1 + 20 + 7);
  }

  /** "the rest is as a VISIT of MAID 0 (with her LOAD)" */
  private static void loadOfMaid0ByBoth() {
    BackFromBreakfast x = Check.told("rr0;m001;m100;");
    Check.due("just enough", x.both(0), 3);
    maidIs("just enough", x, 0, 1, 0, 6);
    maidIs("just enough", x, 1, 1, 0, 6);
    x = Check.told("rr0;m000;m106;");
    Check.due("1 less", x.both(0), 3);
    maidIs("1 less", x, 0, 1, 5, 12);
    maidIs("1 less", x, 1, 1, 6, 12);
    x = Check.told("ru0;m000;m100;");
    Check.due("no LINEN", x.both(0), 3);
    maidIs("no LINEN", x, 0, 1, 0, 4);
    maidIs("no LINEN", x, 1, 1, 0, 4);
  }

  private static void byBoth(String text, int clock) {
    BackFromBreakfast x = Check.told(text);
    Check.due(text + " both(0)", x.both(0), 3);
    Check.due(text + " CLOCK 0", x.maid(0, 2), clock);
    Check.due(text + " CLOCK 1", x.maid(1, 2), clock);
  }

  /** "it takes WORK by 2, cut, and 1 MINUTES in place of WORK" */
  private static void halfTheWorkCutAndOne() {
    byBoth("rr0;", 2 + 4);
    byBoth("rl0;", 2 + 6);
    byBoth("rs0;", 2 + 4);
    byBoth("ra0;", 2 + 6);
    byBoth("ru0;", 2 + 2);
    byBoth("rb0;", 2 + 4);
    byBoth("rb1;", 2 + 5);
    // 15 and 16 MINUTES of WORK, out from 8 and 9 on
    byBoth("rb8;t0007;", 9 + 8);
    byBoth("rb9;t0008;", 10 + 9);
    // 11 and 13 MINUTES of WORK, out from 20 and 60 on
    byBoth("rp2;t0018;", 20 + 6);
    byBoth("rp6;t1058;", 60 + 7);
  }

  private static void comesTo(String text, int end, int load, int clock) {
    BackFromBreakfast x = Check.told(text);
    Check.due(text + " visits(0, 0)", x.visits(0, 0), end);
    maidIs(text, x, 0, 1, load, clock);
    Check.due(text + " DONE", x.room(0, 2), end == 3 ? 1 : 0);
    x = Check.told(text);
    Check.due(text + " both(0)", x.both(0), end);
    Check.due(text + " DONE by both", x.room(0, 2), end == 3 ? 1 : 0);
  }

  /** "is the guest not OUT at her CLOCK then, that is all (1)", ".. (2)": at the MINUTE behind the knock, behind the linen */
  private static void guestsInAtTheKnockAndBehindLinen() {
    // knock at 8, at 9
    comesTo("rr9;t0006;", 1, 6, 8);
    comesTo("rr9;t0007;", 3, 5, 16);
    // knock at 18, at 19 of FIGURE 9, 9 .. 18
    comesTo("rs9;t0016;", 3, 5, 25);
    comesTo("rs9;t0017;", 1, 6, 19);
    // without linen: knock at 12, 13 and back at 18, 19
    comesTo("rs9;m000;t0010;", 3, 5, 25);
    comesTo("rs9;m000;t0011;", 2, 6, 19);
    // she knocks with no LOAD at a guest who is in: she does not go down
    comesTo("rr9;m000;t0006;", 1, 0, 8);
    // a CARD, or DONE: she does not knock
    comesTo("rr0;c0;m000;t0006;", 0, 0, 7);
    BackFromBreakfast x = Check.told("rr0;d0;m000;t0006;");
    Check.due("DONE", x.visits(0, 0), 0);
    maidIs("DONE", x, 0, 1, 0, 7);
    // a CARD and DONE
    x = Check.told("rr0;c0;d0;");
    Check.due("CARD and DONE", x.visits(0, 0), 0);
    Check.due("DONE stays", x.room(0, 2), 1);
    Check.due("CARD stays", x.room(0, 3), 1);
  }

  /** "DONE is DONE from then on, whatever the CLOCKS." */
  private static void doneWhateverTheClocks() {
    BackFromBreakfast x = Check.told("rr0;t0500;");
    Check.due("MAID 0 at 502", x.visits(0, 0), 3);
    Check.due("MAID 1 at 1", x.visits(1, 0), 0);
    maidIs("MAID 1 at 1", x, 1, 1, 6, 1);
    maidIs("MAID 0 at 502", x, 0, 1, 5, 509);
  }

  /** "both CLOCKS become the later one of theirs", "the CLOCK of MAID 1 is hers behind it" */
  private static void bothClocksBecomeTheLater() {
    BackFromBreakfast x = Check.told("rr0;rr0;d1;m026;t0010;m116;t1010;");
    Check.due("MAID 1 has a STEP", x.both(1), 0);
    maidIs("MAID 1 has a STEP", x, 0, 2, 6, 11);
    maidIs("MAID 1 has a STEP", x, 1, 2, 6, 11);
    x = Check.told("rr0;rr0;d1;m016;t0010;m126;t1010;");
    Check.due("MAID 0 has a STEP", x.both(1), 0);
    maidIs("MAID 0 has a STEP", x, 0, 2, 6, 11);
    maidIs("MAID 0 has a STEP", x, 1, 2, 6, 11);
    x = Check.told("rr0;m016;m116;t0040;t1040;");
    Check.due("alike", x.both(0), 3);
    maidIs("alike", x, 0, 1, 5, 45);
    maidIs("alike", x, 1, 1, 6, 45);
  }

  /** Promises 6 and 7: 1, 0 and the bits of all eight ROOMS. */
  private static void cardAndUndoAtAllRooms() {
    BackFromBreakfast x = Check.told("rr0;rr0;rr0;rr0;rr0;rr0;rr0;rr0;");
    for (int room = 0; room < 8; room++) {
      Check.due("card(" + room + ")", x.card(room), 1);
      Check.due("CARDS", x.count(2), (2 << room) - 1);
      Check.due("undo(" + room + ")", x.undo(room), 1);
      Check.due("DONE", x.count(1), (2 << room) - 1);
      Check.due("how many", x.count(3), room + 1);
    }
    for (int room = 7; room >= 0; room--) {
      Check.due("card(" + room + ") again", x.card(room), 0);
      Check.due("CARDS", x.count(2), (1 << room) - 1);
      Check.due("undo(" + room + ") again", x.undo(room), 0);
      Check.due("DONE", x.count(1), (1 << room) - 1);
      Check.due("how many", x.count(3), room);
    }
  }

  /** Promise 8: KIND 0 .. 6, FIGURE 0 .. 9. */
  private static void turnToAllKindsAndFigures() {
    BackFromBreakfast x = Check.told("ru9;rr0;rr0;rr0;rr0;rr0;rr0;ru9;");
    int had = 69;
    for (int kind = 0; kind <= 6; kind++) {
      for (int figure = 0; figure <= 9; figure += 9) {
        Check.due("turn(7, " + kind + ", " + figure + ")", x.turn(7, kind, figure), had);
        had = 10 * kind + figure;
      }
    }
    Check.due("the first ROOM as it was", x.turn(0, 0, 0), 69);
    Check.due("and turned", x.turn(0, 0, 0), 0);
  }

  /** Promise 9: PLACE 0 .. the last ROOM's, LOAD 0 .. 6. */
  private static void placesAndLoads() {
    BackFromBreakfast x = new BackFromBreakfast();
    Check.due("no ROOMS: the STAIRS", x.places(0, 0, 0), 6);
    Check.due("no ROOMS: PLACE 1", x.places(0, 1, 0), -1);
    Check.tell(x, "rr0;");
    Check.due("a ROOM: PLACE 1", x.places(0, 1, 6), 0);
    Check.due("a ROOM: PLACE 2", x.places(0, 2, 6), -1);
    Check.tell(x, "rr0;rr0;rr0;rr0;rr0;rr0;rr0;");
    Check.due("eight ROOMS: PLACE 8", x.places(0, 8, 6), 16);
    Check.due("eight ROOMS: PLACE 9", x.places(0, 9, 6), -1);
    Check.due("eight ROOMS: PLACE -1", x.places(0, -1, 6), -1);
    Check.due("LOAD 0", x.places(0, 8, 0), 86);
    Check.due("LOAD -1", x.places(0, 8, -1), -4);
    Check.due("LOAD 7", x.places(0, 8, 7), -6);
    Check.due("LOAD 6", x.places(0, 0, 6), 80);
    Check.due("all as the last that was taken", x.places(0, 0, 6), 6);
    Check.due("MAID 1", x.places(1, 8, 0), 6);
    Check.due("MAID 1 again", x.places(1, 0, 6), 80);
  }

  /** Promise 10: "n MINUTES (1 .. 60)" */
  private static void staysOneToSixty() {
    BackFromBreakfast x = new BackFromBreakfast();
    Check.due("stays(0, 0)", x.stays(0, 0), -4);
    Check.due("stays(0, 1)", x.stays(0, 1), 1);
    Check.due("stays(0, 60)", x.stays(0, 60), 61);
    Check.due("stays(0, 61)", x.stays(0, 61), -6);
    Check.due("stays(1, 60)", x.stays(1, 60), 60);
    Check.due("CLOCK 0", x.maid(0, 2), 61);
    Check.due("CLOCK 1", x.maid(1, 2), 60);
  }

  /** Promise 10: "-6 (60; CLOCK above 999)" */
  private static void staysUpTo999() {
    BackFromBreakfast x = Check.told("t0939;t1940;");
    Check.due("939 and 60", x.stays(0, 60), 999);
    Check.due("940 and 60", x.stays(1, 60), -6);
    Check.due("940 and 59", x.stays(1, 59), 999);
    Check.due("999 and 1", x.stays(0, 1), -6);
    Check.due("999 and 1", x.stays(1, 1), -6);
    Check.due("both 999", x.maid(0, 2) + x.maid(1, 2), 1998);
    x = Check.told("t0998;");
    Check.due("998 and 2", x.stays(0, 2), -6);
    Check.due("998 and 1", x.stays(0, 1), 999);
  }

  /** At the CLOCK told last it is taken, a MINUTE later it is refused, and then nothing has changed. */
  private static void lastVisit(String text, int clock, int end) {
    BackFromBreakfast x = Check.told(text + "t0" + clock + ";t1" + clock + ";");
    for (int maid = 0; maid < 2; maid++) {
      BackFromBreakfast later = Check.told(text + "t" + maid + (clock + 1) + ";");
      BackFromBreakfast twin = Check.told(text + "t" + maid + (clock + 1) + ";");
      Check.due(text + " visits(" + maid + ", 0) at " + (clock + 1), later.visits(maid, 0), -6);
      Check.due(text + " refused", later.count(16), 1);
      Check.holds(text + " as it was", Check.spent(later).equals(Check.spent(twin)));
    }
    Check.due(text + " visits(0, 0) at " + clock, x.visits(0, 0), end);
    Check.due(text + " CLOCK", x.maid(0, 2), 999);
    if (end == 3) {
      x.undo(0);
    }
    Check.due(text + " visits(1, 0) at " + clock, x.visits(1, 0), end);
    Check.due(text + " CLOCK", x.maid(1, 2), 999);
  }

  /** Promise 11: "-6 CLOCK above 999", whatever it COMES TO. */
  private static void visitsUpTo999() {
    lastVisit("rr0;c0;", 998, 0);
    lastVisit("rr0;d0;", 998, 0);
    lastVisit("rs5;", 997, 1);
    lastVisit("rs5;m000;m100;", 991, 2);
    lastVisit("ru0;", 994, 3);
    lastVisit("rr0;", 990, 3);
    lastVisit("rr0;m000;m100;", 984, 3);
    lastVisit("rl0;m001;m101;", 981, 3);
    // no STEP at 999, a STEP less
    BackFromBreakfast x = Check.told("rr0;c0;m016;t0999;");
    Check.due("there already", x.visits(0, 0), 0);
    Check.due("CLOCK 999", x.maid(0, 2), 999);
    // the CLOCK of the other MAID is not asked
    x = Check.told("rr0;t1999;");
    Check.due("MAID 0 at 0", x.visits(0, 0), 3);
    Check.due("CLOCK", x.maid(0, 2), 9);
  }

  private static void lastVisitByBoth(String text, int clock, int end) {
    for (int maid = 0; maid < 2; maid++) {
      String later = text + "t" + maid + (clock + 1) + ";";
      BackFromBreakfast x = Check.told(later);
      Check.due(later + " both(0)", x.both(0), -6);
      Check.due(later + " refused", x.count(16), 1);
      Check.holds(later + " as it was", Check.spent(x).equals(Check.spent(Check.told(later))));
      x = Check.told(text + "t" + maid + clock + ";");
      Check.due(text + " both(0) at " + clock, x.both(0), end);
      Check.due(text + " CLOCKS", x.maid(0, 2) + x.maid(1, 2), 1998);
    }
  }

  /** Promise 12: "-6 a CLOCK above 999" */
  private static void bothUpTo999() {
    lastVisitByBoth("rr0;c0;", 998, 0);
    lastVisitByBoth("rr0;d0;", 998, 0);
    lastVisitByBoth("rs5;", 997, 1);
    lastVisitByBoth("rs5;m000;", 991, 2);
    lastVisitByBoth("ru0;", 995, 3);
    lastVisitByBoth("rr0;", 993, 3);
    lastVisitByBoth("rr0;m000;", 987, 3);
    BackFromBreakfast x = Check.told("rr0;c0;m016;m116;t1999;");
    Check.due("there already", x.both(0), 0);
    Check.due("CLOCKS 999", x.maid(0, 2) + x.maid(1, 2), 1998);
  }

  /** Promise 13: "-6 CLOCK above 999" */
  private static void downUpTo999() {
    BackFromBreakfast x = Check.told("rr0;rr0;m023;t0995;m123;t1996;");
    Check.due("995: 2 STEPS and 2", x.down(0), 4);
    maidIs("995", x, 0, 0, 6, 999);
    Check.due("996: 2 STEPS and 2", x.down(1), -6);
    maidIs("996", x, 1, 2, 3, 996);
    x = Check.told("t0997;t1998;");
    Check.due("997 at the STAIRS", x.down(0), 2);
    Check.due("998 at the STAIRS", x.down(1), -6);
    maidIs("997 at the STAIRS", x, 0, 0, 6, 999);
    maidIs("998 at the STAIRS", x, 1, 0, 6, 998);
  }

  /** Promise 13: "STEPS to the STAIRS and 2 MINUTES", "LOAD 6" */
  private static void downFromAllPlaces() {
    BackFromBreakfast x = Check.told("rr0;rr0;rr0;rr0;rr0;rr0;rr0;rr0;");
    int clock = 0;
    for (int place = 0; place <= 8; place++) {
      x.places(1, place, place % 7);
      Check.due("down from PLACE " + place, x.down(1), place + 2);
      clock += place + 2;
      maidIs("down from PLACE " + place, x, 1, 0, 6, clock);
    }
  }

  /** "An object is used for at most 512 calls": the last of them answers as the first. */
  private static void the512thCall() {
    BackFromBreakfast x = new BackFromBreakfast();
    for (int call = 1; call < 512; call++) {
      Check.due("refused call " + call, x.card(0), -1);
    }
    Check.due("the 512th call counts 511", x.count(11), 511);
    x = new BackFromBreakfast();
    for (int call = 1; call <= 96; call++) {
      x.letter(call % 4 == 1 || call % 4 == 2 ? 'r' : call % 4 == 3 ? '0' : ';');
    }
    for (int call = 97; call < 512; call++) {
      Check.due("refused call " + call, x.letter('r'), -6);
    }
    Check.due("the 512th call tells a CORRIDOR", x.corridor(), -2032);
  }
}
