/**
 * "MAIDS 0 and 1, each AT a PLACE ..., with a LOAD ... and a CLOCK ... of her own": what a call answers of a
 * MAID goes by hers alone. Each corridor is told twice, with her (A) as MAID 0 and the other one (B) as MAID 1,
 * and changed for each other; the answer due is the same.
 */
public final class EdgeMaidTest {
  private static final String EIGHT_CARDS =
      "rr0;c0;rr0;c1;rr0;c2;rr0;c3;rr0;c4;rr0;c5;rr0;c6;rr0;c7;";

  private interface Call {
    long of(BackFromBreakfast x, int her);
  }

  public static void main(String[] args) {
    whereShePutsItDown();
    visitsByHerClock();
    visitsByHerLoad();
    howLongByHers();
    staysAndDown();
    roundByHers();
    swapByHers();
    nearestByHers();
    orderByHers();
    leastLoadByHers();
    savesByHers();
    savesWithMoreDone();
    waitByHers();
    firstByHers();
    cardBestByHers();
    likelyByHers();
    Check.end("EdgeMaidTest");
  }

  private static String told(String text, int her) {
    return text.replace('A', (char) ('0' + her)).replace('B', (char) ('1' - her));
  }

  private static void due(String text, String call, Call made, long want) {
    for (int her = 0; her < 2; her++) {
      String corridor = told(text, her);
      Check.due(corridor + " " + call + " of " + her, made.of(Check.told(corridor), her), want);
    }
  }

  private static void rowDue(String text, int[] row, String call, Call made, long want) {
    due(text, call, (x, her) -> {
      Check.row(x, row);
      return made.of(x, her);
    }, want);
  }

  /** Behind the call she and the other one are as told: AT, LOAD, CLOCK. */
  private static void behind(String text, String call, Call made, String hers, String others) {
    for (int her = 0; her < 2; her++) {
      String corridor = told(text, her);
      BackFromBreakfast x = Check.told(corridor);
      made.of(x, her);
      Check.holds(corridor + " " + call + " of " + her + ": she is " + of(x, her), of(x, her).equals(hers));
      Check.holds(corridor + " " + call + " of " + her + ": the other is " + of(x, 1 - her),
          of(x, 1 - her).equals(others));
    }
  }

  private static String of(BackFromBreakfast x, int maid) {
    return x.maid(maid, 0) + " " + x.maid(maid, 1) + " " + x.maid(maid, 2);
  }

  private static void whereShePutsItDown() {
    behind("rr0;rr0;mA13;tA045;mB22;tB017;", "told", (x, her) -> 0, "1 3 45", "2 2 17");
    behind("rr0;rr0;mA13;tA045;mB22;tB017;", "places", (x, her) -> x.places(her, 2, 0), "2 0 45", "2 2 17");
    due("rr0;rr0;mA13;mB22;", "places", (x, her) -> x.places(her, 2, 0), 13);
    due("rr0;rr0;mA13;mB22;", "places", (x, her) -> x.places(1 - her, 0, 0), 22);
  }

  /** "is the guest not OUT at her CLOCK then": at the knock and behind the linen */
  private static void visitsByHerClock() {
    // out at 0 .. 9 of 20: a STEP, knock at 9, back from the linen at 15
    due("rs0;mA00;tA007;tB000;", "visits", (x, her) -> x.visits(her, 0), 2);
    behind("rs0;mA00;tA007;tB000;", "visits", (x, her) -> x.visits(her, 0), "1 6 15", "0 6 0");
    // knock at 2, back at 8, when the other one's CLOCK is 15
    due("rs0;mA00;tA000;tB015;", "visits", (x, her) -> x.visits(her, 0), 3);
    behind("rs0;mA00;tA000;tB015;", "visits", (x, her) -> x.visits(her, 0), "1 5 15", "0 6 15");
    // knock at 17, the other one's CLOCK is 0
    due("rs0;tA015;tB000;", "visits", (x, her) -> x.visits(her, 0), 1);
    behind("rs0;tA015;tB000;", "visits", (x, her) -> x.visits(her, 0), "1 6 17", "0 6 0");
    // the same in letters
    behind("rs0;mA00;tA007;vA0;", "told", (x, her) -> 0, "1 6 15", "0 6 0");
    behind("rs0;tA015;vA0;", "told", (x, her) -> 0, "1 6 17", "0 6 0");
  }

  private static void visitsByHerLoad() {
    behind("rp0;mA02;mB06;", "visits", (x, her) -> x.visits(her, 0), "1 3 18", "0 6 0");
    behind("rp0;mA03;mB00;", "visits", (x, her) -> x.visits(her, 0), "1 0 12", "0 0 0");
    behind("rp0;mA02;mB06;vA0;", "told", (x, her) -> 0, "1 3 18", "0 6 0");
  }

  private static void howLongByHers() {
    due("rs0;mA00;tA007;tB000;", "howLong", (x, her) -> x.howLong(her, 0, 0), 8);
    due("rs0;mA00;tA007;tB000;", "howLong", (x, her) -> x.howLong(her, 0, 1), 2);
    due("rs0;mA00;tA007;tB000;", "howLong", (x, her) -> x.howLong(1 - her, 0, 0), 9);
    due("rs0;mA00;tA007;tB000;", "howLong", (x, her) -> x.howLong(1 - her, 0, 1), 3);
    // PLACE 3 to 1, knock, 7
    due("rr0;rr0;rr0;mA36;tA100;mB16;", "howLong", (x, her) -> x.howLong(her, 0, 0), 2 + 1 + 7);
  }

  private static void staysAndDown() {
    due("tA030;tB990;", "stays", (x, her) -> x.stays(her, 60), 90);
    due("tA030;tB990;", "stays", (x, her) -> x.stays(1 - her, 10), -6);
    behind("rr0;rr0;mA21;tA030;mB10;tB990;", "stays", (x, her) -> x.stays(her, 5), "2 1 35", "1 0 990");
    due("rr0;rr0;mA21;tA030;mB10;tB990;", "down", (x, her) -> x.down(her), 4);
    behind("rr0;rr0;mA21;tA030;mB10;tB990;", "down", (x, her) -> x.down(her), "0 6 34", "1 0 990");
    due("rr0;rr0;mA21;tA996;mB10;tB000;", "down", (x, her) -> x.down(her), -6);
  }

  /** "by how much her CLOCK is later behind it", ROOMS DONE and times down as they are of her */
  private static void roundByHers() {
    String text = "rr0;rr0;rl3;mA21;tA005;mB06;tB040;";
    int[] row = {1, 0, 2};
    // PLACE 2: knock, 7; a STEP, knock, down 6, 7; 2 STEPS, knock at 31, 10
    rowDue(text, row, "round", (x, her) -> x.round(her, 0), 8 + 15 + 13);
    rowDue(text, row, "round", (x, her) -> x.round(her, 1), 7);
    rowDue(text, row, "round", (x, her) -> x.round(her, 2), 1);
    // the STAIRS: 2 STEPS, knock, 7; a STEP, knock, 7; 2 STEPS, knock, 10
    rowDue(text, row, "round", (x, her) -> x.round(1 - her, 0), 10 + 9 + 13);
    rowDue(text, row, "round", (x, her) -> x.round(1 - her, 2), 0);
    // knock at 30 and at 29: the LEFT one is out, and in
    rowDue("rr0;rr0;rl3;mA21;tA004;mB06;tB040;", row, "round", (x, her) -> x.round(her, 1), 7);
    rowDue("rr0;rr0;rl3;mA21;tA003;mB06;tB040;", row, "round", (x, her) -> x.round(her, 1), 3);
  }

  private static void swapByHers() {
    String text = "rr0;c0;rr0;c1;rr0;c2;mA36;mB06;";
    // from PLACE 3 to 1, 2, 3: 4; the other way round: 2. From the STAIRS: 3 as it is
    rowDue(text, new int[] {0, 1, 2}, "swap", (x, her) -> x.swap(her), 2);
    rowDue(text, new int[] {0, 1, 2}, "swap", (x, her) -> x.swap(1 - her), -9);
    // to PLACES 2, 1, 8, 3: 15; 1, 2, 8, 3: 13, but 2, 1, 3, 8: 10
    rowDue(EIGHT_CARDS + "mB86;", new int[] {1, 0, 7, 2}, "swap", (x, her) -> x.swap(her), 16 * 2 + 3);
    // from PLACE 8: 6, 1, 7, 5: 19; to 8, 1, 2, 3: 9, and no other is below 14
    rowDue(EIGHT_CARDS + "mB86;", new int[] {1, 0, 7, 2}, "swap", (x, her) -> x.swap(1 - her), 2);
  }

  private static void nearestByHers() {
    due("rr0;rr0;rr0;mA36;mB16;", "nearest", (x, her) -> x.nearest(her), 2);
    due("rr0;rr0;rr0;mA36;mB16;", "nearest", (x, her) -> x.nearest(1 - her), 0);
    // from PLACE 1 to the UNSLEPT one 5 STEPS, knock, 3: 9; the first 8, with no LOAD 14
    String far = "rr0;rr0;c1;rr0;c2;rr0;c3;rr0;c4;ru0;";
    due(far + "mA10;mB16;", "nearest", (x, her) -> x.nearest(her), 5);
    due(far + "mA10;mB16;", "nearest", (x, her) -> x.nearest(1 - her), 0);
    // knock at 5 and at 1 of 20
    far = "rr5;rr0;c1;rr0;c2;rr0;c3;rr0;c4;ru0;";
    due(far + "mA16;tA004;mB16;tB000;", "nearest", (x, her) -> x.nearest(her), 0);
    due(far + "mA16;tA004;mB16;tB000;", "nearest", (x, her) -> x.nearest(1 - her), 5);
  }

  private static void orderByHers() {
    String text = "rr0;c0;rr0;c1;rr0;c2;mA36;mB06;tB500;";
    due(text, "order", (x, her) -> x.order(her, 7, 0), 321);
    due(text, "order", (x, her) -> x.order(her, 7, 2), 2);
    due(text, "order", (x, her) -> x.order(1 - her, 7, 0), 123);
    due(text, "order", (x, her) -> x.order(1 - her, 7, 2), 3);
    // the LEFT one is out for her alone
    due("rl9;tA300;", "order", (x, her) -> x.order(her, 1, 1), 1);
    due("rl9;tA300;", "order", (x, her) -> x.order(1 - her, 1, 1), 0);
  }

  private static void leastLoadByHers() {
    due("rl9;tA300;", "leastLoad", (x, her) -> x.leastLoad(her), 2);
    due("rl9;tA300;", "leastLoad", (x, her) -> x.leastLoad(1 - her), 0);
    // from PLACE 2 to 1 and back, knock at 4; from the STAIRS at 0, knock at 3
    due("rr0;c0;rr4;tA001;mA26;tB000;", "leastLoad", (x, her) -> x.leastLoad(her), 1);
    due("rr0;c0;rr4;tA001;mA26;tB000;", "leastLoad", (x, her) -> x.leastLoad(1 - her), 0);
  }

  private static void savesByHers() {
    // 1, knock 2, down 6, 15; or 2, 3, knock 4, 11
    due("rr0;mA00;", "saves", (x, her) -> x.saves(her), 4);
    due("rr0;mA00;", "saves", (x, her) -> x.saves(1 - her), 0);
    due("rr0;mA10;tA020;mB00;tB500;", "saves", (x, her) -> x.saves(her), 2);
    due("rr0;mA10;tA020;mB00;tB500;", "saves", (x, her) -> x.saves(1 - her), 4);
  }

  /** "if no fewer ROOMS are DONE so": more are DONE, and she is sooner at the end all the same */
  private static void savesWithMoreDone() {
    String text = "rr0;c0;rr0;c1;rr0;c2;rr0;c3;rr0;c4;rr0;c5;rr7;mA00;";
    // 7 STEPS, knock at 8, down 18: 26 is 6 of 20, in; or 2, 7 STEPS, knock at 10, 17
    due(text, "howLong", (x, her) -> x.howLong(her, 6, 1), 2);
    due(text, "howLong", (x, her) -> x.howLong(her, 6, 0), 26);
    due(text, "saves", (x, her) -> x.saves(her), 26 - 17);
  }

  private static void waitByHers() {
    due("rl2;tA000;tB500;", "waitFor", (x, her) -> x.waitFor(her, 0, 0), 18);
    due("rl2;tA000;tB500;", "waitFor", (x, her) -> x.waitFor(her, 0, 1), 18 + 1 + 1 + 10);
    due("rl2;tA000;tB500;", "waitFor", (x, her) -> x.waitFor(1 - her, 0, 0), 0);
    due("rl2;tA000;tB500;", "waitFor", (x, her) -> x.waitFor(1 - her, 0, 1), 1 + 1 + 10);
    due("rr0;rr0;mA20;mB16;", "waitFor", (x, her) -> x.waitFor(her, 0, 1), 1 + 1 + 6 + 7);
  }

  private static void firstByHers() {
    due("rl9;tA300;", "first", (x, her) -> x.first(her), 0);
    due("rl9;tA300;", "first", (x, her) -> x.first(1 - her), -9);
    // LATE: 2 STEPS and knock from 1 on, at 4; from 0 on, at 3
    due("rr0;c0;ra0;tA001;tB000;", "first", (x, her) -> x.first(her), 1);
    due("rr0;c0;ra0;tA001;tB000;", "first", (x, her) -> x.first(1 - her), -9);
  }

  private static void cardBestByHers() {
    due("rl9;tB300;", "cardBest", (x, her) -> x.cardBest(her), 0);
    due("rl9;tB300;", "cardBest", (x, her) -> x.cardBest(1 - her), -9);
    // 15, knock 16 in vain, 17, knock 18, down 8, in: 12; a CARD on the first 11, on the second 3
    due("rl9;rr7;mA00;tA014;", "cardBest", (x, her) -> x.cardBest(her), 1);
    // 1, knock 2, 3, knock 4 in vain: either CARD saves 1
    due("rl9;rr7;mA00;tA014;", "cardBest", (x, her) -> x.cardBest(1 - her), 0);
  }

  private static void likelyByHers() {
    due("rl9;tA300;", "likely", (x, her) -> x.likely(her, 1, 5, 0), 4);
    due("rl9;tA300;", "likely", (x, her) -> x.likely(her, 1, 5, 1), 5);
    due("rl9;tA300;", "likely", (x, her) -> x.likely(1 - her, 1, 5, 0), 0);
    due("rl9;tA300;", "likely", (x, her) -> x.likely(1 - her, 1, 5, 1), 1);
  }
}
