import java.util.function.Supplier;
import java.util.function.ToLongFunction;

/**
 * REFUSALS: "the call answers the number, the first that fits in the order in which it tells them; nothing
 * changes but how many there were". Each refused call is made of one of two twins; all else must stay
 * as it is with the other.
 */
public final class RefusalTest {
  private static final int MIN = Integer.MIN_VALUE;
  private static final int MAX = Integer.MAX_VALUE;

  private static Supplier<BackFromBreakfast> setting = RefusalTest::some;

  public static void main(String[] args) {
    letters();
    roomsAndMaids();
    turnAndPlaces();
    truth();
    minutes();
    longs();
    rounds();
    orderAndShare();
    twoRooms();
    longRounds();
    fractions();
    theRow();
    lots();
    image();
    notRefused();
    Check.end("RefusalTest");
  }

  // ---- settings: nothing there, something of all, all full

  private static BackFromBreakfast empty() {
    return new BackFromBreakfast();
  }

  /** Three ROOMS (0 .. 2), an unwhole ROW, two letters, another image. */
  private static BackFromBreakfast some() {
    BackFromBreakfast x = Check.told("rr2;rl1;c1;m013;t0030;");
    x.image();
    Check.tell(x, "rp4;d2;m121;t1045;");
    Check.row(x, 1, 0, 9);
    x.letter('c');
    x.letter('0');
    return x;
  }

  /** Eight ROOMS, 16 numbers, 96 letters, both CLOCKS 999 AT the STAIRS. */
  private static BackFromBreakfast full() {
    BackFromBreakfast x = Check.told("rr0;rl9;rs0;ra9;rb9;rp9;ru0;rr9;");
    x.image();
    Check.tell(x, "c1;d2;m001;m102;t0999;t1999;");
    Check.row(x, 7, 6, 5, 4, 3, 2, 1, 0, 8, 99, 0, 1, 2, 3, 4, 5);
    for (int i = 0; i < 32; i++) {
      x.letter('c');
      x.letter('0' + i % 8);
      x.letter(';');
    }
    return x;
  }

  private static void with(Supplier<BackFromBreakfast> other) {
    setting = other;
  }

  /** The call answers the number, and is counted once; all else is as it was. */
  private static void no(int number, String call, ToLongFunction<BackFromBreakfast> made) {
    refused(number, number, call, made);
  }

  private static void noLong(int number, String call, ToLongFunction<BackFromBreakfast> made) {
    refused(4000000000000000000L - number, number, call, made);
  }

  private static void refused(long due, int number, String call, ToLongFunction<BackFromBreakfast> made) {
    BackFromBreakfast x = setting.get();
    BackFromBreakfast twin = setting.get();
    Check.due(call, made.applyAsLong(x), due);
    for (int what = 11; what <= 16; what++) {
      long more = what == 10 - number ? 1 : 0;
      Check.due("count(" + what + ") behind " + call, x.count(what), twin.count(what) + more);
    }
    Check.holds("all else stays behind " + call, Check.spent(x).equals(Check.spent(twin)));
  }

  // ---- promise 2: -4; -6 (255; 96, too)

  private static void letters() {
    with(RefusalTest::some);
    no(-4, "letter(-1)", x -> x.letter(-1));
    no(-4, "letter(MIN)", x -> x.letter(MIN));
    no(-6, "letter(256)", x -> x.letter(256));
    no(-6, "letter(MAX)", x -> x.letter(MAX));
    with(RefusalTest::full);
    no(-6, "the 97th letter", x -> x.letter('r'));
    no(-6, "the 97th letter, 0", x -> x.letter(0));
    no(-6, "the 97th letter, 255", x -> x.letter(255));
    no(-6, "the 97th letter, 256", x -> x.letter(256));
    no(-4, "the 97th letter, -1", x -> x.letter(-1));
  }

  // ---- promises 4 to 7: -1; -2

  private static void roomsAndMaids() {
    with(RefusalTest::some);
    no(-1, "room(3, 0)", x -> x.room(3, 0));
    no(-1, "room(-1, 0)", x -> x.room(-1, 0));
    no(-1, "room(32, 0)", x -> x.room(32, 0));
    no(-1, "room(MIN, 0)", x -> x.room(MIN, 0));
    no(-1, "room(MAX, 0)", x -> x.room(MAX, 0));
    no(-2, "room(0, 7)", x -> x.room(0, 7));
    no(-2, "room(2, -1)", x -> x.room(2, -1));
    no(-2, "room(0, MIN)", x -> x.room(0, MIN));
    no(-2, "room(0, MAX)", x -> x.room(0, MAX));
    no(-1, "room(3, 7)", x -> x.room(3, 7));
    no(-1, "maid(2, 0)", x -> x.maid(2, 0));
    no(-1, "maid(-1, 0)", x -> x.maid(-1, 0));
    no(-1, "maid(MIN, 0)", x -> x.maid(MIN, 0));
    no(-1, "maid(MAX, 0)", x -> x.maid(MAX, 0));
    no(-2, "maid(0, 3)", x -> x.maid(0, 3));
    no(-2, "maid(1, -1)", x -> x.maid(1, -1));
    no(-1, "maid(2, 3)", x -> x.maid(2, 3));
    for (int room : new int[] {3, 8, 32, 35, -1, -29, -32, MIN, MAX}) {
      no(-1, "card(" + room + ")", x -> x.card(room));
      no(-1, "undo(" + room + ")", x -> x.undo(room));
    }
    with(RefusalTest::empty);
    no(-1, "empty: room(0, 0)", x -> x.room(0, 0));
    no(-1, "empty: card(0)", x -> x.card(0));
    no(-1, "empty: undo(0)", x -> x.undo(0));
    with(RefusalTest::full);
    no(-1, "full: room(8, 0)", x -> x.room(8, 0));
    no(-2, "full: room(7, 7)", x -> x.room(7, 7));
    no(-1, "full: card(8)", x -> x.card(8));
    no(-1, "full: undo(8)", x -> x.undo(8));
  }

  // ---- promises 8 and 9

  private static void turnAndPlaces() {
    with(RefusalTest::some);
    no(-1, "turn(3, 0, 0)", x -> x.turn(3, 0, 0));
    no(-1, "turn(-1, 0, 0)", x -> x.turn(-1, 0, 0));
    no(-2, "turn(0, 7, 0)", x -> x.turn(0, 7, 0));
    no(-2, "turn(0, -1, 0)", x -> x.turn(0, -1, 0));
    no(-2, "turn(0, MAX, 0)", x -> x.turn(0, MAX, 0));
    no(-4, "turn(0, 0, -1)", x -> x.turn(0, 0, -1));
    no(-4, "turn(0, 6, MIN)", x -> x.turn(0, 6, MIN));
    no(-6, "turn(0, 0, 10)", x -> x.turn(0, 0, 10));
    no(-6, "turn(0, 6, MAX)", x -> x.turn(0, 6, MAX));
    no(-1, "turn(3, 7, 0)", x -> x.turn(3, 7, 0));
    no(-1, "turn(3, 0, -1)", x -> x.turn(3, 0, -1));
    no(-1, "turn(3, 0, 10)", x -> x.turn(3, 0, 10));
    no(-2, "turn(0, 7, -1)", x -> x.turn(0, 7, -1));
    no(-2, "turn(0, -1, 10)", x -> x.turn(0, -1, 10));

    no(-1, "places(2, 0, 0)", x -> x.places(2, 0, 0));
    no(-1, "places(-1, 0, 0)", x -> x.places(-1, 0, 0));
    no(-1, "places(0, 4, 0)", x -> x.places(0, 4, 0));
    no(-1, "places(1, -1, 0)", x -> x.places(1, -1, 0));
    no(-1, "places(0, MAX, 0)", x -> x.places(0, MAX, 0));
    no(-1, "places(0, MIN, 0)", x -> x.places(0, MIN, 0));
    no(-4, "places(0, 0, -1)", x -> x.places(0, 0, -1));
    no(-4, "places(1, 3, MIN)", x -> x.places(1, 3, MIN));
    no(-6, "places(0, 0, 7)", x -> x.places(0, 0, 7));
    no(-6, "places(1, 3, MAX)", x -> x.places(1, 3, MAX));
    no(-1, "places(2, 0, -1)", x -> x.places(2, 0, -1));
    no(-1, "places(2, 0, 7)", x -> x.places(2, 0, 7));
    no(-1, "places(0, 4, -1)", x -> x.places(0, 4, -1));
    no(-1, "places(0, -1, 7)", x -> x.places(0, -1, 7));
    with(RefusalTest::empty);
    no(-1, "empty: turn(0, 0, 0)", x -> x.turn(0, 0, 0));
    no(-1, "empty: places(0, 1, 0)", x -> x.places(0, 1, 0));
    with(RefusalTest::full);
    no(-1, "full: turn(8, 0, 0)", x -> x.turn(8, 0, 0));
    no(-1, "full: places(0, 9, 6)", x -> x.places(0, 9, 6));
  }

  // ---- promises 10 to 13

  private static void truth() {
    with(RefusalTest::some);
    no(-1, "stays(2, 1)", x -> x.stays(2, 1));
    no(-1, "stays(-1, 1)", x -> x.stays(-1, 1));
    no(-4, "stays(0, 0)", x -> x.stays(0, 0));
    no(-4, "stays(0, -1)", x -> x.stays(0, -1));
    no(-4, "stays(0, MIN)", x -> x.stays(0, MIN));
    no(-6, "stays(0, 61)", x -> x.stays(0, 61));
    no(-6, "stays(0, MAX)", x -> x.stays(0, MAX));
    no(-1, "stays(2, 0)", x -> x.stays(2, 0));
    no(-1, "stays(2, 61)", x -> x.stays(2, 61));
    no(-1, "visits(2, 0)", x -> x.visits(2, 0));
    no(-1, "visits(-1, 0)", x -> x.visits(-1, 0));
    no(-1, "visits(0, 3)", x -> x.visits(0, 3));
    no(-1, "visits(1, -1)", x -> x.visits(1, -1));
    no(-1, "visits(2, 3)", x -> x.visits(2, 3));
    no(-1, "both(3)", x -> x.both(3));
    no(-1, "both(-1)", x -> x.both(-1));
    no(-1, "down(2)", x -> x.down(2));
    no(-1, "down(-1)", x -> x.down(-1));
    with(RefusalTest::empty);
    no(-1, "empty: visits(0, 0)", x -> x.visits(0, 0));
    no(-1, "empty: both(0)", x -> x.both(0));
    with(RefusalTest::full);
    no(-6, "CLOCK 999: stays(0, 1)", x -> x.stays(0, 1));
    no(-6, "CLOCK 999: stays(1, 60)", x -> x.stays(1, 60));
    no(-6, "CLOCK 999: stays(1, MAX)", x -> x.stays(1, MAX));
    no(-4, "CLOCK 999: stays(0, 0)", x -> x.stays(0, 0));
    no(-1, "CLOCK 999: stays(2, 1)", x -> x.stays(2, 1));
    // to a ROOM of work, one with a CARD, a DONE one, one whose guest is in: a step alone is too much
    for (int room = 0; room < 8; room++) {
      int to = room;
      no(-6, "CLOCK 999: visits(0, " + to + ")", x -> x.visits(0, to));
      no(-6, "CLOCK 999: visits(1, " + to + ")", x -> x.visits(1, to));
      no(-6, "CLOCK 999: both(" + to + ")", x -> x.both(to));
    }
    no(-1, "CLOCK 999: visits(2, 0)", x -> x.visits(2, 0));
    no(-1, "CLOCK 999: visits(0, 8)", x -> x.visits(0, 8));
    no(-1, "CLOCK 999: both(8)", x -> x.both(8));
    no(-6, "CLOCK 999: down(0)", x -> x.down(0));
    no(-6, "CLOCK 999: down(1)", x -> x.down(1));
    no(-1, "CLOCK 999: down(2)", x -> x.down(2));
    // one CLOCK is early: BY BOTH, the later one counts
    with(() -> Check.told("rr0;t1999;"));
    no(-6, "one CLOCK 999: both(0)", x -> x.both(0));
    with(() -> Check.told("rr0;t0999;"));
    no(-6, "the other CLOCK 999: both(0)", x -> x.both(0));
  }

  // ---- promises 14 and 15: -1; -4; -6 999

  private static void minutes() {
    with(RefusalTest::some);
    for (int room : new int[] {3, -1, MIN, MAX}) {
      no(-1, "out(" + room + ", 0)", x -> x.out(room, 0));
      no(-1, "out(" + room + ", -1)", x -> x.out(room, -1));
      no(-1, "out(" + room + ", 1000)", x -> x.out(room, 1000));
      no(-1, "nextOut(" + room + ", 0)", x -> x.nextOut(room, 0));
      no(-1, "nextOut(" + room + ", -1)", x -> x.nextOut(room, -1));
      no(-1, "nextOut(" + room + ", 1000)", x -> x.nextOut(room, 1000));
    }
    no(-4, "out(0, -1)", x -> x.out(0, -1));
    no(-4, "out(2, MIN)", x -> x.out(2, MIN));
    no(-6, "out(0, 1000)", x -> x.out(0, 1000));
    no(-6, "out(2, MAX)", x -> x.out(2, MAX));
    no(-4, "nextOut(0, -1)", x -> x.nextOut(0, -1));
    no(-4, "nextOut(2, MIN)", x -> x.nextOut(2, MIN));
    no(-6, "nextOut(0, 1000)", x -> x.nextOut(0, 1000));
    no(-6, "nextOut(2, MAX)", x -> x.nextOut(2, MAX));
    with(RefusalTest::empty);
    no(-1, "empty: out(0, 0)", x -> x.out(0, 0));
    no(-1, "empty: nextOut(0, 0)", x -> x.nextOut(0, 0));
    with(RefusalTest::full);
    no(-1, "full: out(8, 0)", x -> x.out(8, 0));
    no(-1, "full: nextOut(8, 0)", x -> x.nextOut(8, 0));
  }

  // ---- promises 16 and 17: -1 (either); -2

  private static void longs() {
    with(RefusalTest::some);
    no(-1, "howLong(2, 0, 0)", x -> x.howLong(2, 0, 0));
    no(-1, "howLong(-1, 0, 1)", x -> x.howLong(-1, 0, 1));
    no(-1, "howLong(0, 3, 0)", x -> x.howLong(0, 3, 0));
    no(-1, "howLong(1, -1, 1)", x -> x.howLong(1, -1, 1));
    no(-2, "howLong(0, 0, 2)", x -> x.howLong(0, 0, 2));
    no(-2, "howLong(1, 2, -1)", x -> x.howLong(1, 2, -1));
    no(-1, "howLong(2, 0, 2)", x -> x.howLong(2, 0, 2));
    no(-1, "howLong(0, 3, -1)", x -> x.howLong(0, 3, -1));
    no(-1, "bothLong(3, 0)", x -> x.bothLong(3, 0));
    no(-1, "bothLong(-1, 0)", x -> x.bothLong(-1, 0));
    no(-2, "bothLong(0, 3)", x -> x.bothLong(0, 3));
    no(-2, "bothLong(2, -1)", x -> x.bothLong(2, -1));
    no(-1, "bothLong(3, 3)", x -> x.bothLong(3, 3));
    with(RefusalTest::empty);
    no(-1, "empty: howLong(0, 0, 0)", x -> x.howLong(0, 0, 0));
    no(-1, "empty: bothLong(0, 0)", x -> x.bothLong(0, 0));
    with(RefusalTest::full);
    no(-1, "full: howLong(0, 8, 0)", x -> x.howLong(0, 8, 0));
    no(-1, "full: bothLong(8, 0)", x -> x.bothLong(8, 0));
  }

  // ---- promises 18 to 20

  private static void rounds() {
    with(RefusalTest::some);
    no(-1, "round(2, 0)", x -> x.round(2, 0));
    no(-1, "round(-1, 2)", x -> x.round(-1, 2));
    no(-2, "round(0, 3)", x -> x.round(0, 3));
    no(-2, "round(1, -1)", x -> x.round(1, -1));
    no(-1, "round(2, 3)", x -> x.round(2, 3));
    no(-1, "swap(2)", x -> x.swap(2));
    no(-1, "swap(-1)", x -> x.swap(-1));
    no(-1, "nearest(2)", x -> x.nearest(2));
    no(-1, "nearest(-1)", x -> x.nearest(-1));
    with(RefusalTest::empty);
    no(-1, "empty: swap(MAX)", x -> x.swap(MAX));
    no(-1, "empty: nearest(MIN)", x -> x.nearest(MIN));
  }

  // ---- promises 21 and 22

  private static void orderAndShare() {
    with(RefusalTest::some);
    no(-1, "order(2, 0, 0)", x -> x.order(2, 0, 0));
    no(-1, "order(-1, 0, 0)", x -> x.order(-1, 0, 0));
    no(-4, "order(0, -1, 0)", x -> x.order(0, -1, 0));
    no(-4, "order(1, MIN, 0)", x -> x.order(1, MIN, 0));
    no(-6, "order(0, 8, 0)", x -> x.order(0, 8, 0));
    no(-6, "order(1, 15, 0)", x -> x.order(1, 15, 0));
    no(-6, "order(0, MAX, 0)", x -> x.order(0, MAX, 0));
    no(-6, "order(0, 1073741824, 0)", x -> x.order(0, 1 << 30, 0));
    no(-2, "order(0, 7, 3)", x -> x.order(0, 7, 3));
    no(-2, "order(0, 0, -1)", x -> x.order(0, 0, -1));
    no(-1, "order(2, -1, 0)", x -> x.order(2, -1, 0));
    no(-1, "order(2, 8, 3)", x -> x.order(2, 8, 3));
    no(-4, "order(0, -1, 3)", x -> x.order(0, -1, 3));
    no(-6, "order(0, 8, 3)", x -> x.order(0, 8, 3));
    no(-4, "share(-1, 0)", x -> x.share(-1, 0));
    no(-4, "share(MIN, 0)", x -> x.share(MIN, 0));
    no(-6, "share(8, 0)", x -> x.share(8, 0));
    no(-6, "share(15, 0)", x -> x.share(15, 0));
    no(-6, "share(MAX, 0)", x -> x.share(MAX, 0));
    no(-2, "share(7, 3)", x -> x.share(7, 3));
    no(-2, "share(0, -1)", x -> x.share(0, -1));
    no(-4, "share(-1, 3)", x -> x.share(-1, 3));
    no(-6, "share(8, 3)", x -> x.share(8, 3));
    with(RefusalTest::empty);
    no(-6, "empty: order(0, 1, 0)", x -> x.order(0, 1, 0));
    no(-6, "empty: share(1, 0)", x -> x.share(1, 0));
    with(RefusalTest::full);
    no(-6, "full: order(0, 256, 0)", x -> x.order(0, 256, 0));
    no(-3, "full: order(0, 63, 0)", x -> x.order(0, 63, 0));
    no(-3, "full: order(1, 252, 2)", x -> x.order(1, 252, 2));
    no(-3, "full: order(0, 255, 0)", x -> x.order(0, 255, 0));
    no(-1, "full: order(2, 63, 0)", x -> x.order(2, 63, 0));
    no(-4, "full: order(0, -1, 0)", x -> x.order(0, -1, 0));
    no(-6, "full: order(0, 319, 0)", x -> x.order(0, 319, 0));
    no(-3, "full: order(0, 63, 3)", x -> x.order(0, 63, 3));
    no(-3, "full: order(0, 63, -1)", x -> x.order(0, 63, -1));
    no(-2, "full: order(0, 31, 3)", x -> x.order(0, 31, 3));
    no(-6, "full: share(256, 0)", x -> x.share(256, 0));
    no(-2, "full: share(255, 3)", x -> x.share(255, 3));
  }

  // ---- promises 23, 31, 32: -1 either (one twice, too)

  private static void twoRooms() {
    with(RefusalTest::some);
    int[][] pairs = {{0, 0}, {2, 2}, {3, 0}, {0, 3}, {-1, 0}, {0, -1}, {3, 3}, {-1, -1}, {MIN, MAX}};
    for (int[] pair : pairs) {
      noTwo(pair[0], pair[1]);
    }
    no(-4, "overlap(0, 1, -1)", x -> x.overlap(0, 1, -1));
    no(-4, "overlap(0, 1, MIN)", x -> x.overlap(0, 1, MIN));
    no(-6, "overlap(0, 1, 100)", x -> x.overlap(0, 1, 100));
    no(-6, "overlap(0, 1, MAX)", x -> x.overlap(0, 1, MAX));
    no(-1, "overlap(0, 0, -1)", x -> x.overlap(0, 0, -1));
    no(-1, "overlap(3, 0, 100)", x -> x.overlap(3, 0, 100));
    with(RefusalTest::empty);
    noTwo(0, 0);
    noTwo(0, 1);
    with(RefusalTest::full);
    noTwo(7, 8);
    noTwo(8, 7);
    noTwo(7, 7);
  }

  private static void noTwo(int a, int b) {
    no(-1, "together(" + a + ", " + b + ")", x -> x.together(a, b));
    no(-1, "two(" + a + ", " + b + ")", x -> x.two(a, b));
    no(-1, "overlap(" + a + ", " + b + ", 1)", x -> x.overlap(a, b, 1));
  }

  // ---- promises 24 to 28, and 29, 30

  private static void longRounds() {
    with(RefusalTest::some);
    for (int maid : new int[] {2, -1, MIN, MAX}) {
      no(-1, "leastLoad(" + maid + ")", x -> x.leastLoad(maid));
      no(-1, "saves(" + maid + ")", x -> x.saves(maid));
      no(-1, "first(" + maid + ")", x -> x.first(maid));
      no(-1, "cardBest(" + maid + ")", x -> x.cardBest(maid));
      no(-1, "waitFor(" + maid + ", 0, 0)", x -> x.waitFor(maid, 0, 0));
    }
    no(-1, "waitFor(0, 3, 0)", x -> x.waitFor(0, 3, 0));
    no(-1, "waitFor(1, -1, 1)", x -> x.waitFor(1, -1, 1));
    no(-2, "waitFor(0, 0, 2)", x -> x.waitFor(0, 0, 2));
    no(-2, "waitFor(1, 2, -1)", x -> x.waitFor(1, 2, -1));
    no(-1, "waitFor(2, 0, 2)", x -> x.waitFor(2, 0, 2));
    no(-1, "waitFor(0, 3, -1)", x -> x.waitFor(0, 3, -1));
    for (int what : new int[] {3, -1, MIN, MAX}) {
      no(-2, "tips(" + what + ")", x -> x.tips(what));
      no(-2, "dearest(" + what + ")", x -> x.dearest(what));
    }
    with(RefusalTest::empty);
    no(-1, "empty: waitFor(0, 0, 0)", x -> x.waitFor(0, 0, 0));
    no(-2, "empty: tips(3)", x -> x.tips(3));
    no(-2, "empty: dearest(3)", x -> x.dearest(3));
    with(RefusalTest::full);
    no(-1, "full: waitFor(0, 8, 0)", x -> x.waitFor(0, 8, 0));
  }

  // ---- promises 33 to 35: longs, 4000000000000000000 less the number

  private static void fractions() {
    with(RefusalTest::some);
    noLong(-4, "inspected(-1, 0)", x -> x.inspected(-1, 0));
    noLong(-4, "inspected(MIN, 1)", x -> x.inspected(MIN, 1));
    noLong(-6, "inspected(9, 0)", x -> x.inspected(9, 0));
    noLong(-6, "inspected(MAX, 1)", x -> x.inspected(MAX, 1));
    noLong(-3, "inspected(4, 0)", x -> x.inspected(4, 0));
    noLong(-3, "inspected(8, 1)", x -> x.inspected(8, 1));
    noLong(-2, "inspected(0, 2)", x -> x.inspected(0, 2));
    noLong(-2, "inspected(3, -1)", x -> x.inspected(3, -1));
    noLong(-4, "inspected(-1, 2)", x -> x.inspected(-1, 2));
    noLong(-6, "inspected(9, 2)", x -> x.inspected(9, 2));
    noLong(-3, "inspected(4, 2)", x -> x.inspected(4, 2));

    noLong(-1, "likely(2, 0, 2, 0)", x -> x.likely(2, 0, 2, 0));
    noLong(-1, "likely(-1, 0, 2, 0)", x -> x.likely(-1, 0, 2, 0));
    noLong(-4, "likely(0, -1, 2, 0)", x -> x.likely(0, -1, 2, 0));
    noLong(-4, "likely(1, MIN, 20, 1)", x -> x.likely(1, MIN, 20, 1));
    noLong(-4, "likely(0, 0, 1, 0)", x -> x.likely(0, 0, 1, 0));
    noLong(-4, "likely(0, 8, 0, 1)", x -> x.likely(0, 8, 0, 1));
    noLong(-4, "likely(0, 0, MIN, 0)", x -> x.likely(0, 0, MIN, 0));
    noLong(-6, "likely(0, 9, 2, 0)", x -> x.likely(0, 9, 2, 0));
    noLong(-6, "likely(0, MAX, 20, 1)", x -> x.likely(0, MAX, 20, 1));
    noLong(-6, "likely(0, 0, 21, 0)", x -> x.likely(0, 0, 21, 0));
    noLong(-6, "likely(0, 8, MAX, 1)", x -> x.likely(0, 8, MAX, 1));
    noLong(-2, "likely(0, 0, 2, 2)", x -> x.likely(0, 0, 2, 2));
    noLong(-2, "likely(1, 8, 20, -1)", x -> x.likely(1, 8, 20, -1));
    noLong(-1, "likely(2, -1, 2, 0)", x -> x.likely(2, -1, 2, 0));
    noLong(-1, "likely(2, 0, 21, 0)", x -> x.likely(2, 0, 21, 0));
    noLong(-1, "likely(2, 0, 2, 2)", x -> x.likely(2, 0, 2, 2));
    noLong(-4, "likely(0, -1, 21, 0)", x -> x.likely(0, -1, 21, 0));
    noLong(-4, "likely(0, 9, 1, 0)", x -> x.likely(0, 9, 1, 0));
    noLong(-4, "likely(0, -1, 2, 2)", x -> x.likely(0, -1, 2, 2));
    noLong(-4, "likely(0, 0, 1, 2)", x -> x.likely(0, 0, 1, 2));
    noLong(-6, "likely(0, 9, 2, 2)", x -> x.likely(0, 9, 2, 2));
    noLong(-6, "likely(0, 0, 21, 2)", x -> x.likely(0, 0, 21, 2));

    noLong(-2, "mean(2)", x -> x.mean(2));
    noLong(-2, "mean(-1)", x -> x.mean(-1));
    noLong(-2, "mean(MIN)", x -> x.mean(MIN));
    noLong(-2, "mean(MAX)", x -> x.mean(MAX));
    with(RefusalTest::empty);
    noLong(-3, "empty: inspected(1, 0)", x -> x.inspected(1, 0));
    noLong(-2, "empty: inspected(0, 2)", x -> x.inspected(0, 2));
    noLong(-2, "empty: mean(2)", x -> x.mean(2));
    with(RefusalTest::full);
    noLong(-6, "full: inspected(9, 0)", x -> x.inspected(9, 0));
    noLong(-2, "full: inspected(8, 2)", x -> x.inspected(8, 2));
    // the numbers themselves, as the document prints the first of them
    Check.due("likely refused by -1", some().likely(2, 0, 2, 0), 4000000000000000001L);
    Check.due("mean refused by -2", some().mean(2), 4000000000000000002L);
    Check.due("inspected refused by -3", some().inspected(4, 0), 4000000000000000003L);
    Check.due("inspected refused by -4", some().inspected(-1, 0), 4000000000000000004L);
    Check.due("inspected refused by -6", some().inspected(9, 0), 4000000000000000006L);
  }

  // ---- promises 36 and 37

  private static void theRow() {
    with(RefusalTest::some);
    no(-1, "whatIs(3, 0)", x -> x.whatIs(3, 0));
    no(-1, "whatIs(-1, 1)", x -> x.whatIs(-1, 1));
    no(-2, "whatIs(0, 2)", x -> x.whatIs(0, 2));
    no(-2, "whatIs(2, -1)", x -> x.whatIs(2, -1));
    no(-3, "an unwhole ROW: whatIs(0, 0)", x -> x.whatIs(0, 0));
    no(-3, "an unwhole ROW: whatIs(2, 1)", x -> x.whatIs(2, 1));
    no(-1, "whatIs(3, 2)", x -> x.whatIs(3, 2));
    no(-4, "row(-1)", x -> x.row(-1));
    no(-4, "row(MIN)", x -> x.row(MIN));
    no(-6, "row(100)", x -> x.row(100));
    no(-6, "row(MAX)", x -> x.row(MAX));
    with(RefusalTest::empty);
    no(-1, "empty: whatIs(0, 0)", x -> x.whatIs(0, 0));
    with(RefusalTest::full);
    no(-1, "full: whatIs(8, 0)", x -> x.whatIs(8, 0));
    no(-2, "full: whatIs(7, 2)", x -> x.whatIs(7, 2));
    no(-6, "the 17th number, 0", x -> x.row(0));
    no(-6, "the 17th number, 99", x -> x.row(99));
    no(-6, "the 17th number, 100", x -> x.row(100));
    no(-4, "the 17th number, -1", x -> x.row(-1));
  }

  // ---- promise 40: -4; -6 20; -2

  private static void lots() {
    with(RefusalTest::some);
    no(-4, "lots(0, 5, 0)", x -> x.lots(0, 5, 0));
    no(-4, "lots(-1, 5, 1)", x -> x.lots(-1, 5, 1));
    no(-4, "lots(MIN, 5, 0)", x -> x.lots(MIN, 5, 0));
    no(-6, "lots(21, 5, 0)", x -> x.lots(21, 5, 0));
    no(-6, "lots(MAX, 5, 1)", x -> x.lots(MAX, 5, 1));
    no(-2, "lots(1, 5, 2)", x -> x.lots(1, 5, 2));
    no(-2, "lots(20, 5, -1)", x -> x.lots(20, 5, -1));
    no(-4, "lots(0, 5, 2)", x -> x.lots(0, 5, 2));
    no(-6, "lots(21, 5, 2)", x -> x.lots(21, 5, 2));
  }

  // ---- promise 42: -3 there is none

  private static void image() {
    with(RefusalTest::empty);
    no(-3, "empty: on()", x -> x.on());
    with(() -> Check.told("rr2;rl1;c1;m013;t0030;"));
    no(-3, "no image: on()", x -> x.on());
  }

  // ---- what answers a number below 0, but is no refusal: nothing is counted

  private static void notRefused() {
    BackFromBreakfast x = Check.told("rl9;c0;rl9;d1;");
    Check.due("nextOut: none", x.nextOut(0, 29), -9);
    Check.due("swap: none", x.swap(0), -9);
    Check.due("nearest: none", x.nearest(0), -9);
    Check.due("together: alike", Check.told("rr0;c0;rr0;c1;").together(0, 1), -9);
    Check.due("waitFor: none", x.waitFor(0, 0, 0), -9);
    Check.due("waitFor: none", x.waitFor(0, 0, 1), -9);
    Check.due("first: none", x.first(1), -9);
    Check.due("cardBest: none", x.cardBest(1), -9);
    Check.due("judge: none", x.judge(), -9);
    for (int what : new int[] {-1, 8, 9, 10, 17, MIN, MAX}) {
      Check.due("count(" + what + ")", x.count(what), -9);
    }
    x.undo(0);
    Check.due("dearest: none", x.dearest(0), -9);
    Check.due("a FAULT of kind 1", Check.tell(x, "c0"), -1002);
    Check.due("a FAULT of kind 2", Check.tell(x, "c9;"), -2000);
    Check.due("no letters", x.corridor(), -1000);
    x.turn(0, 5, 0);
    x.turn(1, 5, 0);
    Check.tell(x, "rp0;c0;d0;d1;");
    Check.due("leastLoad: none", x.leastLoad(0), -9);
    BackFromBreakfast y = Check.told("rr0;rr0;t0500;");
    Check.due("two: none", y.two(0, 1), -9);
    Check.due("no refusals", Check.refusals(x).equals("0 0 0 0 0 0 ") ? 1 : 0, 1);
    Check.due("no refusals of two", Check.refusals(y).equals("0 0 0 0 0 0 ") ? 1 : 0, 1);
  }
}
