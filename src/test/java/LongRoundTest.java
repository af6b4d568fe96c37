/** Promises 24 to 28: what to load, when to go down, how long to wait, who is first, cards. */
public final class LongRoundTest {
  public static void main(String[] args) {
    leastLoad();
    saves();
    waitFor();
    first();
    cardBest();
    Check.end("LongRoundTest");
  }

  private static void leastLoad() {
    Check.due("no rooms", new BackFromBreakfast().leastLoad(0), 0);
    leastLoadIs("rr0;rl0;", 3);
    leastLoadIs("rr0;rl9;", 1);
    leastLoadIs("ru0;rl0;d1;", 0);
    leastLoadIs("rp0;rl0;rr0;", 6);
    leastLoadIs("rp0;rp0;rr0;", -9);
    leastLoadIs("rp0;c0;rp0;rr0;", 4);
    // 9, 18, 19, knock 20: STAYING 5 is out at 5 .. 14 of 20, no LINEN is wanted
    leastLoadIs("rr0;rr0;rs5;", 2);
    BackFromBreakfast x = Check.told("rr0;m010;m103;");
    String before = Check.state(x);
    Check.due("her own LOAD does not count", x.leastLoad(0), 1);
    Check.due("leastLoad(1)", x.leastLoad(1), 1);
    Check.holds("in mind", before.equals(Check.state(x)));
    Check.due("leastLoad(2)", x.leastLoad(2), -1);
    Check.due("leastLoad(-1)", x.leastLoad(-1), -1);
  }

  private static void leastLoadIs(String text, int want) {
    BackFromBreakfast x = Check.told(text);
    Check.due(text + " leastLoad(0)", x.leastLoad(0), want);
  }

  private static void saves() {
    Check.due("no rooms", new BackFromBreakfast().saves(0), 0);
    // knock 1, down 6: 7, 14; or 3, 4, knock 5, 12
    BackFromBreakfast x = Check.told("rr0;m010;m116;");
    String before = Check.state(x);
    Check.due("sooner by 2", x.saves(0), 2);
    Check.due("later", x.saves(1), 0);
    Check.holds("in mind", before.equals(Check.state(x)));
    Check.due("saves(2)", x.saves(2), -1);
    Check.due("saves(-1)", x.saves(-1), -1);
    // knock 7, 14; or 9, 10, knock 11 in vain
    x = Check.told("rs0;m016;t0006;");
    Check.due("sooner, but fewer are done", x.saves(0), 0);
    // knock 18, down: 24, in; or 20, 21, knock 22, in: 22
    x = Check.told("rr6;m010;t0017;");
    Check.due("as few are done", x.saves(0), 2);
    // 1, knock 2, down 6: 8, 15; or 2, 3, knock 4, 11
    x = Check.told("rr0;m000;");
    Check.due("at the stairs", x.saves(0), 4);
  }

  private static void waits(String text, int maid, int room, int wait, int minutes) {
    BackFromBreakfast x = Check.told(text);
    String before = Check.seen(x);
    Check.due(text + " waitFor(0)", x.waitFor(maid, room, 0), wait);
    Check.due(text + " waitFor(1)", x.waitFor(maid, room, 1), minutes);
    Check.holds(text + " in mind", before.equals(Check.seen(x)));
  }

  private static void waitFor() {
    waits("rr0;", 0, 0, 0, 9);
    waits("rl2;", 0, 0, 18, 30);
    waits("rl2;", 1, 0, 18, 30);
    waits("rl4;t0008;", 0, 0, 30, 42);
    waits("rl4;t0007;", 0, 0, -9, -9);
    waits("rl0;d0;", 0, 0, -9, -9);
    waits("rl0;c0;", 0, 0, -9, -9);
    waits("rr6;m000;t0017;", 0, 0, 7, 22);
    waits("rr0;ra0;t0999;", 0, 1, 0, 2 + 1 + 10);
    waits("rr0;ra0;t0998;", 0, 1, 1, 1 + 2 + 1 + 10);
    BackFromBreakfast x = Check.told("rr0;");
    Check.due("waitFor(2, 0, 0)", x.waitFor(2, 0, 0), -1);
    Check.due("waitFor(-1, 0, 0)", x.waitFor(-1, 0, 0), -1);
    Check.due("waitFor(0, 1, 2)", x.waitFor(0, 1, 2), -1);
    Check.due("waitFor(0, -1, 0)", x.waitFor(0, -1, 0), -1);
    Check.due("waitFor(0, 0, 2)", x.waitFor(0, 0, 2), -2);
    Check.due("waitFor(0, 0, -1)", x.waitFor(0, 0, -1), -2);
  }

  private static void first() {
    Check.due("no rooms", new BackFromBreakfast().first(0), -9);
    firstIs("rr0;rl0;", 1);
    firstIs("rl0;rl0;", 0);
    firstIs("rl9;rl0;", 1);
    // 9, 10, 11 in vain, 12, knock 13 is odd
    firstIs("rr0;rl9;ra0;", -9);
    // 9, 10, knock 11 is odd; 12, knock 13, 23, 24, knock 25
    firstIs("rr0;ra0;rp0;ra0;", 2);
    // 9, 10, knock 11 is odd; a MINUTE later it is not
    firstIs("rr1;ra0;", -9);
    firstIs("rr1;ra0;t0001;", 1);
    firstIs("rl0;d0;rp0;", 1);
    firstIs("rl0;c0;rs0;", -9);
    firstIs("rr0;rs0;rb0;ru0;", -9);
    BackFromBreakfast x = Check.told("rl0;t0002;");
    String before = Check.state(x);
    Check.due("first(1)", x.first(1), 0);
    Check.holds("in mind", before.equals(Check.state(x)));
    Check.due("first(2)", x.first(2), -1);
    Check.due("first(-1)", x.first(-1), -1);
  }

  private static void firstIs(String text, int want) {
    BackFromBreakfast x = Check.told(text);
    Check.due(text + " first(0)", x.first(0), want);
  }

  private static void cardBest() {
    Check.due("no rooms", new BackFromBreakfast().cardBest(0), -9);
    cardBestIs("rr9;rr0;", 0);
    cardBestIs("rr0;", -9);
    cardBestIs("rr9;", 0);
    cardBestIs("rr9;c0;", -9);
    cardBestIs("rr9;d0;", -9);
    cardBestIs("rr9;rl9;", 0);
    cardBestIs("rr9;c0;rl9;", 1);
    // 0, knock 1 in vain; 2, knock 3, 6; 7, knock 8, down 10: 18, 25
    BackFromBreakfast x = Check.told("rl9;ru0;rr0;m010;");
    String before = Check.state(x);
    Check.due("but with no fewer done", x.cardBest(0), 0);
    x.undo(2);
    Check.due("the same when it is done", x.cardBest(0), 0);
    x.undo(2);
    x.turn(2, 0, 9);
    // .. 7, knock 8 in vain: a card on the first or on the third saves 1
    Check.due("of several the least", x.cardBest(0), 0);
    x.turn(2, 0, 0);
    Check.holds("in mind", before.equals(Check.state(x)));
    Check.due("cardBest(2)", x.cardBest(2), -1);
    Check.due("cardBest(-1)", x.cardBest(-1), -1);
    // 15, knock 16 in vain, 17, knock 18, down 8: 26 in vain; a card on the second saves 9
    cardBestIs("rl9;rr7;m000;t0014;", 1);
    // 0, knock 1, 8; 9, knock 10, 17; with a card on the first 1, knock 2 in vain
    cardBestIs("rr0;rs5;m016;", -9);
    // 12, 13, knock 14 in vain; with a card on the first 2, knock 3, 10: as many are done
    cardBestIs("rl0;rs3;", 0);
  }

  private static void cardBestIs(String text, int want) {
    BackFromBreakfast x = Check.told(text);
    Check.due(text + " cardBest(0)", x.cardBest(0), want);
  }
}
