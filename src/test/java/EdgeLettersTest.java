/** The numbers at the edges of a CORRIDOR told in letters: Terms, promises 1 to 3. */
public final class EdgeLettersTest {
  private static final String DIGITS = "0123456789";
  private static final String BEGIN = "rcdmtvb";
  private static final String KIND = "rlsabpu";

  /** Statements that can come behind "rr0;", and the letters that may stand at each place of them. */
  private static final String[] FORMS = {"rr3;", "c0;", "d0;", "m016;", "t1999;", "v00;", "b0;"};
  private static final String[][] MAY_STAND = {
    {BEGIN, KIND, DIGITS, ";"},
    {BEGIN, DIGITS, ";"},
    {BEGIN, DIGITS, ";"},
    {BEGIN, DIGITS, DIGITS, DIGITS, ";"},
    {BEGIN, DIGITS, DIGITS, DIGITS, DIGITS, ";"},
    {BEGIN, DIGITS, DIGITS, ";"},
    {BEGIN, DIGITS, ";"}};

  public static void main(String[] args) {
    nothingIsThereAtFirst();
    lettersFrom0To255();
    lettersAreAtMost96();
    aStatementAtLeast();
    theFirstLetterThatCannotGoOn();
    theEndIfSomethingLacks();
    kind1BeforeKind2();
    roomsAreAtMost8();
    noSuchRoomSoFar();
    noSuchMaid();
    aPlaceBeyondTheLastRoomSoFar();
    aLoadOutOfRange();
    clocksInLetters();
    figuresInLetters();
    aClockAbove999BehindAVisit();
    aClockAbove999BehindAVisitByBoth();
    theFirstStatementThatIsNotAsItMustBe();
    toldAgain();
    theLettersAreNoMore();
    nothingComesWithAFault();
    Check.end("EdgeLettersTest");
  }

  private static long told(String text) {
    return Check.tell(new BackFromBreakfast(), text);
  }

  private static void taken(String text, int statements) {
    Check.due("corridor " + text, told(text), statements);
  }

  private static void wrongLetter(String text, int place) {
    Check.due("corridor " + text, told(text), -1000 - place);
  }

  private static void wrongStatement(String text, int place) {
    Check.due("corridor " + text, told(text), -2000 - place);
  }

  /** "No ROOMS; both MAIDS AT the STAIRS, LOAD 6, CLOCK 0." */
  private static void nothingIsThereAtFirst() {
    BackFromBreakfast x = new BackFromBreakfast();
    Check.due("ROOMS", x.count(0), 0);
    Check.due("DONE", x.count(1), 0);
    Check.due("CARDS", x.count(2), 0);
    Check.due("in the ROW", x.count(6), 0);
    Check.due("letters", x.count(7), 0);
    Check.holds("both MAIDS", Check.state(x).equals("0 6 0 0 6 0 "));
    Check.holds("no REFUSALS", Check.refusals(x).equals("0 0 0 0 0 0 "));
    Check.due("no image", x.on(), -3);
  }

  /** "A letter (0 .. 255) comes ... -4; -6 (255 ...)" */
  private static void lettersFrom0To255() {
    for (int c = 0; c <= 255; c++) {
      Check.due("letter(" + c + ")", new BackFromBreakfast().letter(c), 1);
    }
    BackFromBreakfast x = new BackFromBreakfast();
    Check.due("letter(-1)", x.letter(-1), -4);
    Check.due("letter(256)", x.letter(256), -6);
    Check.due("neither has come", x.count(7), 0);
    Check.due("the first behind them", x.letter(255), 1);
    Check.due("the last number is a wrong letter", x.corridor(), -1000);
  }

  /** "A CORRIDOR is told in letters ... (96 at most)", "-6 (255; 96, too)" */
  private static void lettersAreAtMost96() {
    BackFromBreakfast x = Check.told("rr0;");
    // 32 statements of 3 letters: told 32 times the CARD is none again
    for (int i = 0; i < 32; i++) {
      Check.due("letter c", x.letter('c'), 3 * i + 1);
      Check.due("letter 0", x.letter('0'), 3 * i + 2);
      Check.due("letter ;", x.letter(';'), 3 * i + 3);
    }
    Check.due("the 97th", x.letter('c'), -6);
    Check.due("96 they are", x.count(7), 96);
    Check.due("96 letters are a CORRIDOR", x.corridor(), 32);
    Check.due("no CARD", x.count(2), 0);
    Check.due("a first one again", x.letter('c'), 1);
    // 95 letters and one that lacks: the end is the place 96
    x = Check.told("rr0;");
    for (int i = 0; i < 95; i++) {
      x.letter(i % 3 == 0 ? 'c' : i % 3 == 1 ? '0' : ';');
    }
    Check.due("the 96th", x.letter('0'), 96);
    Check.due("a wrong one at the last place", x.corridor(), -1095);
    x = new BackFromBreakfast();
    for (int i = 0; i < 96; i++) {
      x.letter(i % 4 == 3 ? ';' : i % 4 == 2 ? '0' : 'r');
    }
    Check.due("24 ROOMS in 96 letters: no room for the ninth", x.corridor(), -2032);
  }

  /** "At least one STATEMENT." */
  private static void aStatementAtLeast() {
    wrongLetter("", 0);
    BackFromBreakfast x = Check.told("rr0;");
    Check.due("nothing told behind a CORRIDOR", x.corridor(), -1000);
    Check.due("and again", x.corridor(), -1000);
    taken("m006;", 1);
    taken("t0000;", 1);
    taken("rr0;", 1);
  }

  /** "FAULT: kind 1 the place of the first letter with which no CORRIDOR can go on" */
  private static void theFirstLetterThatCannotGoOn() {
    for (int form = 0; form < FORMS.length; form++) {
      for (int place = 0; place < FORMS[form].length(); place++) {
        for (int c = 0; c <= 255; c++) {
          oneLetterChanged(form, place, (char) c);
        }
      }
    }
  }

  private static void oneLetterChanged(int form, int place, char letter) {
    String text = FORMS[form].substring(0, place) + letter + FORMS[form].substring(place + 1);
    String what = "corridor rr0;" + FORMS[form] + ", " + (int) letter + " at " + place;
    long answer = told("rr0;" + text + "c0;");
    if (MAY_STAND[form][place].indexOf(letter) < 0) {
      Check.due(what, answer, -1000 - 4 - place);
    } else if (place > 0) {
      Check.holds(what + " is no FAULT of kind 1", answer == 3 || answer == -2004);
    }
  }

  /** "(the end, if something lacks)" */
  private static void theEndIfSomethingLacks() {
    for (String form : FORMS) {
      for (int length = 1; length < form.length(); length++) {
        wrongLetter("rr0;" + form.substring(0, length), 4 + length);
      }
      taken("rr0;" + form, 2);
    }
  }

  /** "kind 1 ...; else kind 2" */
  private static void kind1BeforeKind2() {
    wrongLetter("c9;x", 3);
    wrongLetter("c9;c", 4);
    wrongLetter("t9999;m999;v99;b9;d9;c9;rr9", 27);
    wrongLetter("rr0;".repeat(9) + ";", 36);
    wrongLetter("rr0;t0999;v00;;", 14);
    wrongStatement("rr0;t0999;v00;", 10);
  }

  /** "ROOMS 0 .. as they come (8 at most)", "no room for more" */
  private static void roomsAreAtMost8() {
    taken("rr0;".repeat(8), 8);
    wrongStatement("rr0;".repeat(9), 32);
    wrongStatement("rr0;".repeat(8) + "c0;rr0;c8;", 35);
    BackFromBreakfast x = Check.told("rr0;rr0;rr0;rr0;rr0;rr0;rr0;");
    Check.due("two more behind seven", Check.tell(x, "rl1;rl2;"), -2004);
    Check.due("neither has come", x.count(0), 7);
    Check.due("one more", Check.tell(x, "ru9;"), 1);
    Check.due("eight", x.count(0), 8);
    Check.due("the eighth", x.room(7, 0) * 10 + x.room(7, 1), 69);
    Check.due("a ninth", Check.tell(x, "rr0;"), -2000);
    Check.due("nothing has changed", x.count(0), 8);
    Check.due("the eighth still", x.room(7, 0) * 10 + x.room(7, 1), 69);
  }

  /** "no such ROOM so far": c, d, v, b, with as many ROOMS ahead of it, and with one fewer. */
  private static void noSuchRoomSoFar() {
    for (int room = 0; room <= 9; room++) {
      for (String statement : new String[] {"c" + room + ";", "d" + room + ";", "v0" + room + ";",
          "v1" + room + ";", "b" + room + ";"}) {
        if (room < 8) {
          taken("rr0;".repeat(room + 1) + statement, room + 2);
        }
        int ahead = Math.min(room, 8);
        wrongStatement("rr0;".repeat(ahead) + statement, 4 * ahead);
        // a ROOM that comes behind it does not help
        if (room < 8) {
          wrongStatement("rr0;".repeat(room) + statement + "rr0;", 4 * room);
        }
      }
    }
  }

  /** "no such MAID": 0 and 1 are, 2 .. 9 are not. */
  private static void noSuchMaid() {
    for (int maid = 0; maid <= 9; maid++) {
      for (String behind : new String[] {"06;", "16;"}) {
        maidIn("rr0;m" + maid + behind, maid);
      }
      maidIn("rr0;t" + maid + "000;", maid);
      maidIn("rr0;v" + maid + "0;", maid);
    }
  }

  private static void maidIn(String text, int maid) {
    Check.due("corridor " + text, told(text), maid < 2 ? 2 : -2004);
  }

  /** "a PLACE beyond the last ROOM so far" */
  private static void aPlaceBeyondTheLastRoomSoFar() {
    for (int rooms = 0; rooms <= 8; rooms++) {
      String ahead = "rr0;".repeat(rooms);
      for (int place = 0; place <= 9; place++) {
        Check.due(rooms + " ROOMS, PLACE " + place, told(ahead + "m0" + place + "6;"),
            place <= rooms ? rooms + 1 : -2000 - 4 * rooms);
        Check.due(rooms + " ROOMS, PLACE " + place, told(ahead + "m1" + place + "0;"),
            place <= rooms ? rooms + 1 : -2000 - 4 * rooms);
      }
    }
    wrongStatement("rr0;m020;rr0;", 4);
    taken("rr0;rr0;m020;", 3);
    BackFromBreakfast x = Check.told("rr0;rr0;rr0;rr0;rr0;rr0;rr0;rr0;m080;m185;");
    Check.due("AT the last PLACE", x.maid(0, 0), 8);
    Check.due("AT the last PLACE", x.maid(1, 0), 8);
  }

  /** "a number out of range": LOAD 0 .. 6 */
  private static void aLoadOutOfRange() {
    for (int load = 0; load <= 9; load++) {
      BackFromBreakfast x = new BackFromBreakfast();
      Check.due("m00" + load + ";", Check.tell(x, "m00" + load + ";"), load <= 6 ? 1 : -2000);
      Check.due("LOAD behind it", x.maid(0, 1), load <= 6 ? load : 6);
      Check.due("m10" + load + ";", told("rr0;m10" + load + ";"), load <= 6 ? 2 : -2004);
    }
  }

  /** "CLOCK (0 .. 999 ...)", "CLOCK (3 digits)" */
  private static void clocksInLetters() {
    for (int clock : new int[] {0, 1, 9, 10, 99, 100, 101, 110, 990, 998, 999}) {
      String digits = "" + clock / 100 + clock / 10 % 10 + clock % 10;
      BackFromBreakfast x = Check.told("t0" + digits + ";");
      Check.due("CLOCK " + digits + " of MAID 0", x.maid(0, 2), clock);
      Check.due("CLOCK " + digits + " of MAID 0, not of 1", x.maid(1, 2), 0);
      x = Check.told("t1" + digits + ";");
      Check.due("CLOCK " + digits + " of MAID 1", x.maid(1, 2), clock);
      Check.due("CLOCK " + digits + " of MAID 1, not of 0", x.maid(0, 2), 0);
    }
    // a CLOCK goes back, too
    BackFromBreakfast x = Check.told("t0999;t0000;");
    Check.due("CLOCK again", x.maid(0, 2), 0);
  }

  /** "a FIGURE (0 .. 9)" */
  private static void figuresInLetters() {
    for (int kind = 0; kind < 7; kind++) {
      for (int figure = 0; figure <= 9; figure++) {
        BackFromBreakfast x = Check.told("r" + KIND.charAt(kind) + figure + ";");
        Check.due("KIND", x.room(0, 0), kind);
        Check.due("FIGURE", x.room(0, 1), figure);
      }
    }
  }

  /** "a CLOCK above 999 behind a VISIT": 999 is taken, 1000 is not, whatever it COMES TO. */
  private static void aClockAbove999BehindAVisit() {
    // COMES TO 0: a step
    clockIs("rr0;c0;t0998;v00;", 0, 999);
    wrongStatement("rr0;c0;t0999;v00;", 13);
    clockIs("rr0;d0;t1998;v10;", 1, 999);
    wrongStatement("rr0;d0;t1999;v10;", 13);
    clockIs("rr0;d0;m106;t1999;m116;v10;", 1, 999);
    // COMES TO 1: a step, knock at 999 (19 of 20), at 1000 (0 of 20): FIGURE 5 is out at 5 .. 14
    clockIs("rs5;t0997;v00;", 0, 999);
    wrongStatement("rs5;t0998;v00;", 10);
    // COMES TO 2: knock at 993, 994 (13, 14 of 20), back behind 6 MINUTES at 999, 1000
    clockIs("rs5;m000;t0991;v00;", 0, 999);
    wrongStatement("rs5;m000;t0992;v00;", 15);
    // COMES TO 3: a step, knock, 3 MINUTES
    clockIs("ru0;t0994;v00;", 0, 999);
    wrongStatement("ru0;t0995;v00;", 10);
    // .. with 6 MINUTES for linen: knock, 6, 7
    clockIs("rr0;m000;t0984;v00;", 0, 999);
    wrongStatement("rr0;m000;t0985;v00;", 15);
    // the CLOCK of the other MAID is not asked
    clockIs("ru0;t1999;v00;", 1, 999);
    // told back in time ahead of the VISIT
    clockIs("ru0;t0999;t0000;v00;", 0, 5);
  }

  private static void clockIs(String text, int maid, int clock) {
    Check.due("CLOCK behind " + text, Check.told(text).maid(maid, 2), clock);
  }

  /** The same of a VISIT BY BOTH: both CLOCKS are the later one first. */
  private static void aClockAbove999BehindAVisitByBoth() {
    clockIs("rr0;c0;t1998;b0;", 0, 999);
    clockIs("rr0;c0;t0998;b0;", 1, 999);
    wrongStatement("rr0;c0;t1999;b0;", 13);
    wrongStatement("rr0;c0;t0999;b0;", 13);
    clockIs("rs5;t1997;b0;", 0, 999);
    wrongStatement("rs5;t1998;b0;", 10);
    clockIs("rs5;m000;t0991;b0;", 1, 999);
    wrongStatement("rs5;m000;t0992;b0;", 15);
    // a step, knock, 3 by 2, cut, and 1
    clockIs("ru0;t1995;b0;", 1, 999);
    wrongStatement("ru0;t1996;b0;", 10);
    // AT the place already: knock and 2 MINUTES
    clockIs("ru0;m116;m016;t1996;b0;", 0, 999);
    wrongStatement("ru0;m116;m016;t1997;b0;", 20);
  }

  /** "the first letter of the first STATEMENT that, behind all ahead of it in the text, is not as it must be" */
  private static void theFirstStatementThatIsNotAsItMustBe() {
    wrongStatement("c0;d0;", 0);
    wrongStatement("rr0;c0;c1;d1;", 7);
    wrongStatement("rr0;d0;v01;v20;", 7);
    wrongStatement("rr0;t0000;m017;t2000;", 10);
    // all ahead of it has come when it is looked at: 1 STEP to the first ROOM, 2 to each other
    BackFromBreakfast x = Check.told("rr0;c0;rr0;rr0;c2;t0985;");
    Check.due("5 times there and back", Check.tell(x, "v00;v02;v00;v02;v00;v02;v00;"), 7);
    Check.due("985 and 1 and 6 times 2", x.maid(0, 2), 998);
    Check.due("998 and 2", Check.tell(x, "c0;v02;"), -2003);
    Check.due("998 and 1", Check.tell(x, "c1;v01;"), 2);
  }

  /** "c ...: it has a CARD, or, told again, none; d ...: it is DONE, or, told again, not" */
  private static void toldAgain() {
    BackFromBreakfast x = new BackFromBreakfast();
    Check.due("once", Check.tell(x, "rr0;rr0;c1;d1;"), 4);
    Check.due("CARD", x.room(1, 3), 1);
    Check.due("DONE", x.room(1, 2), 1);
    Check.due("again", Check.tell(x, "c1;d1;"), 2);
    Check.due("no CARD", x.room(1, 3), 0);
    Check.due("not DONE", x.room(1, 2), 0);
    Check.due("twice in one text", Check.tell(x, "c1;c1;d1;d1;d1;"), 5);
    Check.due("no CARD", x.room(1, 3), 0);
    Check.due("DONE", x.room(1, 2), 1);
    Check.due("the other ROOM", x.room(0, 2) + x.room(0, 3), 0);
  }

  /** "The letters become a CORRIDOR, and are no more (with a FAULT neither)" */
  private static void theLettersAreNoMore() {
    for (String text : new String[] {"rr0;", "x", "rr", "c0;", "rr0;c1;"}) {
      BackFromBreakfast x = new BackFromBreakfast();
      Check.tell(x, text);
      Check.due("letters behind " + text, x.count(7), 0);
      Check.due("corridor() again behind " + text, x.corridor(), -1000);
      Check.due("letter behind " + text, x.letter('c'), 1);
    }
  }

  /** "Without FAULT all of it comes, with one nothing", "(nothing is counted)" */
  private static void nothingComesWithAFault() {
    String[] faults = {"", "x", "ru9;c0;d1;m080;t1999;v01;b1", "ru9;c0;d1;m025;t1777;v01;b1;c9;",
      "ru9;c2;d2;rr0;t0999;v01;", "rr0;".repeat(9), "c0;d1;m116;m007;", "t0123;t2000;"};
    for (String fault : faults) {
      BackFromBreakfast x = someThings();
      BackFromBreakfast twin = someThings();
      Check.holds("a FAULT: " + fault, Check.tell(x, fault) <= -1000);
      Check.holds("not counted: " + fault, Check.refusals(x).equals(Check.refusals(twin)));
      Check.holds("nothing has come: " + fault, Check.spent(x).equals(Check.spent(twin)));
    }
  }

  private static BackFromBreakfast someThings() {
    BackFromBreakfast x = Check.told("rr2;rl1;c1;m013;t0030;");
    x.image();
    Check.tell(x, "d0;m121;t1045;");
    Check.row(x, 1, 0, 9);
    x.mean(7);
    return x;
  }
}
