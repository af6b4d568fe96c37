/**
 * Two maids and a corridor of rooms, before the guests are back from breakfast.
 *
 * What is real stands in {@code now}; whatever is only worked out is played in {@code mind}, which
 * becomes a copy of {@code now} first. No call makes an object: all rows are made with the object.
 */
public final class BackFromBreakfast {
  private static final int NOBODY = -1;
  private static final int OTHER = -2;
  private static final int STATE = -3;
  private static final int BELOW = -4;
  private static final int ROOM = -6;
  private static final int NOTHING = -9;
  private static final long REFUSED_LONG = 4000000000000000000L;

  private static final int LAST_CLOCK = 999;
  private static final int MOST_IN_ROW = 16;
  private static final int MOST_IN_ORDER = 5;
  private static final int ORDERS_OF_FIVE = 120;

  private final Corridor now;
  private final Corridor mind;
  private final Corridor kept;
  private boolean hasImage;
  private final Telling telling;
  private final int[] numbers;
  private int inRow;
  private final int[] refusals;
  private final int[] path;
  private final Best best;

  public BackFromBreakfast() {
    now = new Corridor();
    mind = new Corridor();
    kept = new Corridor();
    hasImage = false;
    telling = new Telling();
    numbers = new int[MOST_IN_ROW];
    inRow = 0;
    refusals = new int[7];
    path = new int[MOST_IN_ORDER];
    best = new Best();
  }

  // ---- the corridor told in letters

  public int letter(int c) {
    if (c < 0) {
      return refuse(BELOW);
    }
    if (c > 255 || telling.isFull()) {
      return refuse(ROOM);
    }
    return telling.take(c);
  }

  public int corridor() {
    think();
    int answer = telling.tellTo(mind);
    if (answer > 0) {
      now.become(mind);
    }
    telling.forget();
    return answer;
  }

  // ---- what there is, and what is done in truth

  public int room(int room, int what) {
    if (!now.hasRoom(room)) {
      return refuse(NOBODY);
    }
    switch (what) {
      case 0: return now.kindOf(room);
      case 1: return now.figureOf(room);
      case 2: return now.isDone(room) ? 1 : 0;
      case 3: return now.hasCard(room) ? 1 : 0;
      case 4: return now.workOf(room);
      case 5: return now.linenOf(room);
      case 6: return now.tipOf(room);
      default: return refuse(OTHER);
    }
  }

  public int maid(int maid, int what) {
    if (!now.hasMaid(maid)) {
      return refuse(NOBODY);
    }
    switch (what) {
      case 0: return now.placeOf(maid);
      case 1: return now.loadOf(maid);
      case 2: return now.clockOf(maid);
      default: return refuse(OTHER);
    }
  }

  public int card(int room) {
    if (!now.hasRoom(room)) {
      return refuse(NOBODY);
    }
    now.changeCard(room);
    return now.hasCard(room) ? 1 : 0;
  }

  public int undo(int room) {
    if (!now.hasRoom(room)) {
      return refuse(NOBODY);
    }
    now.changeDone(room);
    return now.isDone(room) ? 1 : 0;
  }

  public int turn(int room, int kind, int figure) {
    if (!now.hasRoom(room)) {
      return refuse(NOBODY);
    }
    if (!Kinds.isKind(kind)) {
      return refuse(OTHER);
    }
    if (figure < 0) {
      return refuse(BELOW);
    }
    if (figure > 9) {
      return refuse(ROOM);
    }
    int had = 10 * now.kindOf(room) + now.figureOf(room);
    now.setKind(room, kind);
    now.setFigure(room, figure);
    return had;
  }

  public int places(int maid, int place, int load) {
    if (!now.hasMaid(maid) || !now.hasPlace(place)) {
      return refuse(NOBODY);
    }
    if (load < 0) {
      return refuse(BELOW);
    }
    if (load > Corridor.FULL_LOAD) {
      return refuse(ROOM);
    }
    int had = 10 * now.placeOf(maid) + now.loadOf(maid);
    now.setPlace(maid, place);
    now.setLoad(maid, load);
    return had;
  }

  public int stays(int maid, int n) {
    if (!now.hasMaid(maid)) {
      return refuse(NOBODY);
    }
    if (n < 1) {
      return refuse(BELOW);
    }
    if (n > 60 || now.clockOf(maid) + n > LAST_CLOCK) {
      return refuse(ROOM);
    }
    now.pass(maid, n);
    return now.clockOf(maid);
  }

  public int visits(int maid, int room) {
    if (!now.hasMaid(maid) || !now.hasRoom(room)) {
      return refuse(NOBODY);
    }
    think();
    int end = mind.visitBy(maid, room);
    if (mind.clockOf(maid) > LAST_CLOCK) {
      return refuse(ROOM);
    }
    now.become(mind);
    return end;
  }

  public int both(int room) {
    if (!now.hasRoom(room)) {
      return refuse(NOBODY);
    }
    think();
    int end = mind.visitByBoth(room);
    if (mind.laterClock() > LAST_CLOCK) {
      return refuse(ROOM);
    }
    now.become(mind);
    return end;
  }

  public int down(int maid) {
    if (!now.hasMaid(maid)) {
      return refuse(NOBODY);
    }
    think();
    mind.goDown(maid);
    if (mind.clockOf(maid) > LAST_CLOCK) {
      return refuse(ROOM);
    }
    int minutes = thoughtMinutes(maid);
    now.become(mind);
    return minutes;
  }

  // ---- who is out when, and how long a visit takes

  public int out(int room, int t) {
    int refusal = minuteRefusal(room, t);
    if (refusal != 0) {
      return refuse(refusal);
    }
    return now.guestOut(room, t) ? 1 : 0;
  }

  public int nextOut(int room, int t) {
    int refusal = minuteRefusal(room, t);
    if (refusal != 0) {
      return refuse(refusal);
    }
    for (int later = 0; later <= 60; later++) {
      if (now.guestOut(room, t + later)) {
        return t + later;
      }
    }
    return NOTHING;
  }

  public int howLong(int maid, int room, int what) {
    if (!now.hasMaid(maid) || !now.hasRoom(room)) {
      return refuse(NOBODY);
    }
    if (what < 0 || what > 1) {
      return refuse(OTHER);
    }
    think();
    int end = mind.visitBy(maid, room);
    return what == 0 ? thoughtMinutes(maid) : end;
  }

  public int bothLong(int room, int what) {
    if (!now.hasRoom(room)) {
      return refuse(NOBODY);
    }
    if (what < 0 || what > 2) {
      return refuse(OTHER);
    }
    think();
    int end = mind.visitByBoth(room);
    return what == 2 ? end : thoughtMinutes(what);
  }

  // ---- rounds, and which room next

  public int round(int maid, int what) {
    if (!now.hasMaid(maid)) {
      return refuse(NOBODY);
    }
    if (what < 0 || what > 2) {
      return refuse(OTHER);
    }
    thinkRow(maid);
    switch (what) {
      case 0: return thoughtMinutes(maid);
      case 1: return mind.doneBits() & ~now.doneBits();
      default: return mind.timesDown();
    }
  }

  public int swap(int maid) {
    if (!now.hasMaid(maid)) {
      return refuse(NOBODY);
    }
    thinkRow(maid);
    int fewest = thoughtMinutes(maid);
    int answer = NOTHING;
    for (int i = 0; i < inRow; i++) {
      for (int j = i + 1; j < inRow; j++) {
        exchange(numbers, i, j);
        thinkRow(maid);
        exchange(numbers, i, j);
        if (thoughtMinutes(maid) < fewest) {
          fewest = thoughtMinutes(maid);
          answer = 16 * i + j;
        }
      }
    }
    return answer;
  }

  public int nearest(int maid) {
    if (!now.hasMaid(maid)) {
      return refuse(NOBODY);
    }
    int answer = NOTHING;
    int fewest = 0;
    for (int room = 0; room < now.rooms(); room++) {
      think();
      boolean done = mind.visitBy(maid, room) == Corridor.CLEANED;
      int minutes = thoughtMinutes(maid);
      if (done && (answer == NOTHING || minutes < fewest)) {
        answer = room;
        fewest = minutes;
      }
    }
    return answer;
  }

  // ---- told rooms: orders, shares, together or alone

  public int order(int maid, int set, int what) {
    if (!now.hasMaid(maid)) {
      return refuse(NOBODY);
    }
    int refusal = setRefusal(set);
    if (refusal != 0) {
      return refuse(refusal);
    }
    if (Integer.bitCount(set) > MOST_IN_ORDER) {
      return refuse(STATE);
    }
    if (what < 0 || what > 2) {
      return refuse(OTHER);
    }
    seekOrder(maid, set);
    return best.answer(what);
  }

  public int share(int set, int what) {
    int refusal = setRefusal(set);
    if (refusal != 0) {
      return refuse(refusal);
    }
    if (what < 0 || what > 2) {
      return refuse(OTHER);
    }
    best.forget();
    for (int hers = 0; hers < 1 << now.rooms(); hers++) {
      if ((hers & ~set) == 0) {
        think();
        mind.roundOver(0, set & ~hers);
        mind.roundOver(1, hers);
        best.offer(hers, mind.doneCount(), mind.laterClock());
      }
    }
    return best.answer(what);
  }

  public int together(int a, int b) {
    if (!areTwoRooms(a, b)) {
      return refuse(NOBODY);
    }
    best.forget();
    think();
    mind.visitByBoth(a);
    mind.visitByBoth(b);
    int done = mind.doneCount();
    int clock = mind.laterClock();
    best.offer(0, done, clock);
    think();
    mind.visitBy(0, a);
    mind.visitBy(1, b);
    if (mind.doneCount() == done && mind.laterClock() == clock) {
      return NOTHING;
    }
    best.offer(1, mind.doneCount(), mind.laterClock());
    return best.answer(0);
  }

  // ---- the long round: what to load, when to go down, how long to wait, cards

  public int leastLoad(int maid) {
    if (!now.hasMaid(maid)) {
      return refuse(NOBODY);
    }
    for (int load = 0; load <= Corridor.FULL_LOAD; load++) {
      think();
      mind.setLoad(maid, load);
      mind.longRound(maid);
      if (mind.timesDown() == 0) {
        return load;
      }
    }
    return NOTHING;
  }

  public int saves(int maid) {
    if (!now.hasMaid(maid)) {
      return refuse(NOBODY);
    }
    think();
    mind.longRound(maid);
    int end = mind.clockOf(maid);
    int done = mind.doneCount();
    think();
    mind.goDown(maid);
    mind.longRound(maid);
    if (mind.doneCount() < done) {
      return 0;
    }
    return Math.max(0, end - mind.clockOf(maid));
  }

  public int waitFor(int maid, int room, int what) {
    if (!now.hasMaid(maid) || !now.hasRoom(room)) {
      return refuse(NOBODY);
    }
    if (what < 0 || what > 1) {
      return refuse(OTHER);
    }
    int answer = NOTHING;
    int fewest = NOTHING;
    for (int wait = 0; wait <= 30; wait++) {
      think();
      mind.pass(maid, wait);
      boolean done = mind.visitBy(maid, room) == Corridor.CLEANED;
      int minutes = thoughtMinutes(maid);
      if (done && (answer == NOTHING || minutes < fewest)) {
        answer = wait;
        fewest = minutes;
      }
    }
    return what == 0 ? answer : fewest;
  }

  public int first(int maid) {
    if (!now.hasMaid(maid)) {
      return refuse(NOBODY);
    }
    think();
    for (int room = 0; room < now.rooms(); room++) {
      boolean done = mind.visitBy(maid, room) == Corridor.CLEANED;
      if (done && Kinds.isUnderLeft(now.kindOf(room))) {
        return room;
      }
    }
    return NOTHING;
  }

  public int cardBest(int maid) {
    if (!now.hasMaid(maid)) {
      return refuse(NOBODY);
    }
    think();
    mind.longRound(maid);
    int done = mind.doneCount();
    int fewest = thoughtMinutes(maid);
    int answer = NOTHING;
    for (int room = 0; room < now.rooms(); room++) {
      if (!now.hasCard(room)) {
        think();
        mind.changeCard(room);
        mind.longRound(maid);
        if (mind.doneCount() >= done && thoughtMinutes(maid) < fewest) {
          answer = room;
          fewest = thoughtMinutes(maid);
        }
      }
    }
    return answer;
  }

  // ---- tips, work, and guests of two rooms

  public int tips(int what) {
    if (what < 0 || what > 2) {
      return refuse(OTHER);
    }
    int done = now.doneBits();
    int all = now.tipsOf(done);
    if (what == 0) {
      return all;
    }
    int fairest = 0;
    int least = all;
    for (int one = 0; one < 1 << now.rooms(); one++) {
      int differ = Math.abs(all - 2 * now.tipsOf(one));
      if ((one & ~done) == 0 && differ < least) {
        fairest = one;
        least = differ;
      }
    }
    return what == 1 ? fairest : least;
  }

  public int dearest(int what) {
    switch (what) {
      case 0: return mostWork();
      case 1: return outNow();
      case 2: return linenLeft();
      default: return refuse(OTHER);
    }
  }

  public int overlap(int a, int b, int n) {
    if (!areTwoRooms(a, b)) {
      return refuse(NOBODY);
    }
    if (n < 0) {
      return refuse(BELOW);
    }
    if (n > 99) {
      return refuse(ROOM);
    }
    int minutes = 0;
    for (int later = 0; later < n; later++) {
      int t = now.clockOf(0) + later;
      if (now.guestOut(a, t) && now.guestOut(b, t)) {
        minutes++;
      }
    }
    return minutes;
  }

  public int two(int a, int b) {
    if (!areTwoRooms(a, b)) {
      return refuse(NOBODY);
    }
    if (neitherWouldChange(a, a, b, b)) {
      return 0;
    }
    if (neitherWouldChange(a, b, b, a)) {
      return 1;
    }
    if (neitherWouldChange(b, a, a, b)) {
      return 10;
    }
    if (neitherWouldChange(b, b, a, a)) {
      return 11;
    }
    return NOTHING;
  }

  // ---- fractions

  public long inspected(int k, int part) {
    if (k < 0) {
      return refuseLong(BELOW);
    }
    if (k > Corridor.MOST_ROOMS) {
      return refuseLong(ROOM);
    }
    if (k > now.rooms()) {
      return refuseLong(STATE);
    }
    if (part < 0 || part > 1) {
      return refuseLong(OTHER);
    }
    long all = 0;
    long seen = 0;
    for (int looked = 0; looked < 1 << now.rooms(); looked++) {
      if (Integer.bitCount(looked) == k) {
        all++;
        seen += (looked & ~now.doneBits()) != 0 ? 1 : 0;
      }
    }
    return partOf(seen, all, part);
  }

  public long likely(int maid, int v, int t, int part) {
    if (!now.hasMaid(maid)) {
      return refuseLong(NOBODY);
    }
    if (v < 0 || t < 2) {
      return refuseLong(BELOW);
    }
    if (v > Corridor.MOST_ROOMS || t > 20) {
      return refuseLong(ROOM);
    }
    if (part < 0 || part > 1) {
      return refuseLong(OTHER);
    }
    int rooms = now.rooms();
    long above = 0;
    for (int staying = 0; staying < 1 << rooms; staying++) {
      think();
      mind.keepIn(staying);
      mind.longRound(maid);
      if (mind.doneCount() >= v) {
        above += power(t - 1, rooms - Integer.bitCount(staying));
      }
    }
    return partOf(above, power(t, rooms), part);
  }

  public long mean(int part) {
    if (part < 0 || part > 1) {
      return refuseLong(OTHER);
    }
    long work = 0;
    long left = 0;
    for (int room = 0; room < now.rooms(); room++) {
      if (!now.isDone(room)) {
        work += now.workOf(room);
        left++;
      }
    }
    return partOf(work, left, part);
  }

  // ---- the row, mornings by lot, the image, counts

  public int whatIs(int room, int what) {
    if (!now.hasRoom(room)) {
      return refuse(NOBODY);
    }
    if (what < 0 || what > 1) {
      return refuse(OTHER);
    }
    if (inRow % 2 != 0) {
      return refuse(STATE);
    }
    return what == 0 ? kindsByRow(now.figureOf(room)) : figuresByRow(now.kindOf(room));
  }

  public int row(int v) {
    if (v < 0) {
      return refuse(BELOW);
    }
    if (v > 99 || inRow < 0 || inRow >= numbers.length) {
      return refuse(ROOM);
    }
    numbers[inRow] = v;
    inRow++;
    return inRow;
  }

  public int judge() {
    thinkRow(0);
    int answer = NOTHING;
    for (int i = 0; i < inRow && answer == NOTHING; i++) {
      int room = numberAt(i);
      if (!mind.hasRoom(room) || !mind.isDone(room)) {
        answer = i;
      }
    }
    inRow = 0;
    return answer;
  }

  public int clear() {
    int had = inRow;
    inRow = 0;
    return had;
  }

  public int lots(int n, int z, int what) {
    if (n < 1) {
      return refuse(BELOW);
    }
    if (n > 20) {
      return refuse(ROOM);
    }
    if (what < 0 || what > 1) {
      return refuse(OTHER);
    }
    int seed = z;
    int done = 0;
    int minutes = 0;
    for (int morning = 0; morning < n; morning++) {
      think();
      for (int room = 0; room < now.rooms(); room++) {
        seed = nextSeed(seed);
        mind.setFigure(room, drawBelowTen(seed));
      }
      mind.longRound(0);
      done += mind.doneCount();
      minutes += thoughtMinutes(0);
    }
    return what == 0 ? done : minutes;
  }

  public int image() {
    kept.become(now);
    hasImage = true;
    return now.doneCount();
  }

  public int on() {
    if (!hasImage) {
      return refuse(STATE);
    }
    now.become(kept);
    return now.doneCount();
  }

  public int count(int what) {
    if (what >= 11 && what <= 16) {
      return timesRefused(what - 10);
    }
    switch (what) {
      case 0: return now.rooms();
      case 1: return now.doneBits();
      case 2: return now.cardBits();
      case 3: return now.doneCount();
      case 4: return now.laterClock();
      case 5: return now.loadOf(0) + now.loadOf(1);
      case 6: return inRow;
      case 7: return telling.length();
      default: return NOTHING;
    }
  }

  // ---- refusals

  private int refuse(int number) {
    int kind = -number;
    if (kind >= 0 && kind < refusals.length) {
      refusals[kind]++;
    }
    return number;
  }

  private int timesRefused(int kind) {
    return kind >= 0 && kind < refusals.length ? refusals[kind] : 0;
  }

  private long refuseLong(int number) {
    return REFUSED_LONG - refuse(number);
  }

  private int minuteRefusal(int room, int t) {
    if (!now.hasRoom(room)) {
      return NOBODY;
    }
    if (t < 0) {
      return BELOW;
    }
    return t > LAST_CLOCK ? ROOM : 0;
  }

  private int setRefusal(int set) {
    if (set < 0) {
      return BELOW;
    }
    return set >> now.rooms() != 0 ? ROOM : 0;
  }

  private boolean areTwoRooms(int a, int b) {
    return now.hasRoom(a) && now.hasRoom(b) && a != b;
  }

  // ---- thoughts

  private void think() {
    mind.become(now);
  }

  private int thoughtMinutes(int maid) {
    return mind.clockOf(maid) - now.clockOf(maid);
  }

  private void thinkRow(int maid) {
    think();
    for (int i = 0; i < inRow; i++) {
      int room = numberAt(i);
      if (mind.hasRoom(room)) {
        mind.visitBy(maid, room);
      }
    }
  }

  private int numberAt(int i) {
    return i >= 0 && i < numbers.length ? numbers[i] : 0;
  }

  /** Walks all orders of the set, the first by numbers first, so that of alike ones it stays. */
  private void seekOrder(int maid, int set) {
    int length = 0;
    for (int room = 0; room < now.rooms(); room++) {
      if ((set >> room & 1) != 0 && length < path.length) {
        path[length] = room;
        length++;
      }
    }
    best.forget();
    boolean more = true;
    for (int i = 0; i < ORDERS_OF_FIVE && more; i++) {
      think();
      for (int j = 0; j < length; j++) {
        mind.visitBy(maid, pathAt(j));
      }
      best.offer(pathNumber(length), mind.doneCount(), thoughtMinutes(maid));
      more = nextPath(length);
    }
  }

  private int pathNumber(int length) {
    int number = 0;
    for (int i = 0; i < length; i++) {
      number = 10 * number + pathAt(i) + 1;
    }
    return number;
  }

  private int pathAt(int i) {
    return i >= 0 && i < path.length ? path[i] : 0;
  }

  /** Makes the path the next one by numbers, if there is one. */
  private boolean nextPath(int length) {
    int i = length - 2;
    while (i >= 0 && pathAt(i) > pathAt(i + 1)) {
      i--;
    }
    if (i < 0) {
      return false;
    }
    int j = length - 1;
    while (j > i && pathAt(j) < pathAt(i)) {
      j--;
    }
    exchange(path, i, j);
    int high = length - 1;
    for (int low = i + 1; low < high; low++) {
      exchange(path, low, high);
      high--;
    }
    return true;
  }

  private static void exchange(int[] values, int i, int j) {
    if (i >= 0 && j >= 0 && i < values.length && j < values.length) {
      int value = values[i];
      values[i] = values[j];
      values[j] = value;
    }
  }

  private boolean neitherWouldChange(int room0, int room1, int other0, int other1) {
    return clockBehind(0, room0, room1) <= clockBehind(0, other0, room1)
        && clockBehind(1, room0, room1) <= clockBehind(1, room0, other1);
  }

  private int clockBehind(int maid, int room0, int room1) {
    think();
    if (room0 == room1) {
      mind.visitByBoth(room0);
    } else {
      mind.visitBy(0, room0);
      mind.visitBy(1, room1);
    }
    return mind.clockOf(maid);
  }

  // ---- rooms looked over

  private int mostWork() {
    int answer = NOTHING;
    int most = 0;
    for (int room = 0; room < now.rooms(); room++) {
      if (!now.isDone(room) && now.workOf(room) > most) {
        answer = room;
        most = now.workOf(room);
      }
    }
    return answer;
  }

  private int outNow() {
    int bits = 0;
    for (int room = 0; room < now.rooms(); room++) {
      if (now.guestOut(room, now.clockOf(0))) {
        bits |= 1 << room;
      }
    }
    return bits;
  }

  private int linenLeft() {
    int linen = 0;
    for (int room = 0; room < now.rooms(); room++) {
      if (!now.isDone(room)) {
        linen += now.linenOf(room);
      }
    }
    return linen;
  }

  private int kindsByRow(int figure) {
    int bits = 0;
    for (int kind = 0; kind < Kinds.KINDS; kind++) {
      if (rowIsSo(kind, figure)) {
        bits |= 1 << kind;
      }
    }
    return bits;
  }

  private int figuresByRow(int kind) {
    int bits = 0;
    for (int figure = 0; figure <= 9; figure++) {
      if (rowIsSo(kind, figure)) {
        bits |= 1 << figure;
      }
    }
    return bits;
  }

  private boolean rowIsSo(int kind, int figure) {
    for (int i = 0; i + 1 < inRow; i += 2) {
      boolean wasOut = numberAt(i + 1) != 0;
      if (Kinds.isOut(kind, figure, numberAt(i)) != wasOut) {
        return false;
      }
    }
    return true;
  }

  // ---- numbers

  private static int nextSeed(int seed) {
    return seed * 1664525 + 1013904223;
  }

  private static int drawBelowTen(int seed) {
    return (seed & 0x7fffffff) / 256 % 10;
  }

  private static long power(long base, int exponent) {
    long product = 1;
    for (int i = 0; i < exponent; i++) {
      product *= base;
    }
    return product;
  }

  /** Above (part 0) or below (part 1) the line, in least terms; nothing is 0 by 1. */
  private static long partOf(long above, long below, int part) {
    if (above == 0 || below == 0) {
      return part;
    }
    long divisor = commonDivisor(above, below);
    if (divisor == 0) {
      return part;
    }
    return part == 0 ? above / divisor : below / divisor;
  }

  private static long commonDivisor(long a, long b) {
    long greater = a;
    long lesser = b;
    // Numbers of a long's size need fewer than 100 steps.
    for (int i = 0; i < 100 && lesser != 0; i++) {
      long rest = greater % lesser;
      greater = lesser;
      lesser = rest;
    }
    return greater;
  }

  /** What a kind of room is like, by its number. */
  private static final class Kinds {
    static final int KINDS = 7;
    private static final int PLAIN = 0;
    private static final int LEFT = 1;
    private static final int STAYING = 2;
    private static final int LATE = 3;
    private static final int SANDY = 4;
    private static final int PIPE = 5;
    private static final int UNSLEPT = 6;

    static boolean isKind(int kind) {
      return kind >= 0 && kind < KINDS;
    }

    /** The kind told by a letter; -1 if it tells none. */
    static int ofLetter(int letter) {
      switch (letter) {
        case 'r': return PLAIN;
        case 'l': return LEFT;
        case 's': return STAYING;
        case 'a': return LATE;
        case 'b': return SANDY;
        case 'p': return PIPE;
        case 'u': return UNSLEPT;
        default: return -1;
      }
    }

    static boolean isUnderLeft(int kind) {
      return kind == LEFT || kind == LATE || kind == PIPE;
    }

    static boolean isOut(int kind, int figure, int t) {
      switch (kind) {
        case LEFT:
        case PIPE: return t >= 10 * figure;
        case LATE: return t >= 10 * figure && t % 2 == 0;
        case STAYING:
        case SANDY: return (t + 20 - figure) % 20 < 10;
        case UNSLEPT: return true;
        default: return t % 20 >= figure;
      }
    }

    static int work(int kind, int figure) {
      switch (kind) {
        case LEFT:
        case LATE: return 10;
        case SANDY: return 7 + figure;
        case PIPE: return 10 + figure / 2;
        case UNSLEPT: return 3;
        default: return 7;
      }
    }

    static int linen(int kind) {
      switch (kind) {
        case LEFT:
        case LATE:
        case SANDY: return 2;
        case PIPE: return 3;
        case UNSLEPT: return 0;
        default: return 1;
      }
    }

    static int tip(int kind, int figure) {
      switch (kind) {
        case STAYING: return 0;
        case LATE: return 2 * figure;
        case SANDY: return 3;
        case PIPE: return figure + 1;
        default: return figure;
      }
    }
  }

  /** The rooms and the maids as they are at one time, in truth or in mind. */
  private static final class Corridor {
    static final int MOST_ROOMS = 8;
    static final int FULL_LOAD = 6;
    private static final int NOTHING_TO_DO = 0;
    private static final int IN_AT_THE_KNOCK = 1;
    private static final int IN_BEHIND_LINEN = 2;
    static final int CLEANED = 3;

    private int rooms;
    private int done;
    private int cards;
    private int staying;
    private int downs;
    private final int[] kinds;
    private final int[] figures;
    private final int[] at;
    private final int[] loads;
    private final int[] clocks;

    Corridor() {
      rooms = 0;
      done = 0;
      cards = 0;
      staying = 0;
      downs = 0;
      kinds = new int[MOST_ROOMS];
      figures = new int[MOST_ROOMS];
      at = new int[2];
      loads = new int[2];
      clocks = new int[2];
      for (int maid = 0; maid < loads.length; maid++) {
        loads[maid] = FULL_LOAD;
      }
    }

    /** Who stays in and how often one went down are of one thought only, so they are not taken over. */
    void become(Corridor other) {
      rooms = other.rooms;
      done = other.done;
      cards = other.cards;
      staying = 0;
      downs = 0;
      takeOver(kinds, other.kinds);
      takeOver(figures, other.figures);
      takeOver(at, other.at);
      takeOver(loads, other.loads);
      takeOver(clocks, other.clocks);
    }

    private static void takeOver(int[] values, int[] others) {
      for (int i = 0; i < values.length && i < others.length; i++) {
        values[i] = others[i];
      }
    }

    // -- rooms

    int rooms() {
      return rooms;
    }

    boolean hasRoom(int room) {
      return room >= 0 && room < rooms && room < MOST_ROOMS;
    }

    /** Whether there was space for it. */
    boolean addRoom(int kind, int figure) {
      if (rooms < 0 || rooms >= MOST_ROOMS) {
        return false;
      }
      setKind(rooms, kind);
      setFigure(rooms, figure);
      rooms++;
      return true;
    }

    int kindOf(int room) {
      return room >= 0 && room < kinds.length ? kinds[room] : 0;
    }

    int figureOf(int room) {
      return room >= 0 && room < figures.length ? figures[room] : 0;
    }

    void setKind(int room, int kind) {
      if (room >= 0 && room < kinds.length) {
        kinds[room] = kind;
      }
    }

    void setFigure(int room, int figure) {
      if (room >= 0 && room < figures.length) {
        figures[room] = figure;
      }
    }

    boolean isDone(int room) {
      return (done >> room & 1) != 0;
    }

    boolean hasCard(int room) {
      return (cards >> room & 1) != 0;
    }

    void changeDone(int room) {
      done ^= 1 << room;
    }

    void changeCard(int room) {
      cards ^= 1 << room;
    }

    int doneBits() {
      return done;
    }

    int cardBits() {
      return cards;
    }

    int doneCount() {
      return Integer.bitCount(done);
    }

    int workOf(int room) {
      return Kinds.work(kindOf(room), figureOf(room));
    }

    int linenOf(int room) {
      return Kinds.linen(kindOf(room));
    }

    int tipOf(int room) {
      return Kinds.tip(kindOf(room), figureOf(room));
    }

    int tipsOf(int set) {
      int sum = 0;
      for (int room = 0; room < rooms; room++) {
        if ((set >> room & 1) != 0) {
          sum += tipOf(room);
        }
      }
      return sum;
    }

    /** These guests are not out at any minute, whatever their habits. */
    void keepIn(int set) {
      staying = set;
    }

    boolean guestOut(int room, int t) {
      if ((staying >> room & 1) != 0) {
        return false;
      }
      return Kinds.isOut(kindOf(room), figureOf(room), t);
    }

    // -- maids

    boolean hasMaid(int maid) {
      return maid == 0 || maid == 1;
    }

    boolean hasPlace(int place) {
      return place >= 0 && place <= rooms;
    }

    int placeOf(int maid) {
      return maid >= 0 && maid < at.length ? at[maid] : 0;
    }

    int loadOf(int maid) {
      return maid >= 0 && maid < loads.length ? loads[maid] : 0;
    }

    int clockOf(int maid) {
      return maid >= 0 && maid < clocks.length ? clocks[maid] : 0;
    }

    int laterClock() {
      return Math.max(clockOf(0), clockOf(1));
    }

    int timesDown() {
      return downs;
    }

    void setPlace(int maid, int place) {
      if (maid >= 0 && maid < at.length) {
        at[maid] = place;
      }
    }

    void setLoad(int maid, int load) {
      if (maid >= 0 && maid < loads.length) {
        loads[maid] = load;
      }
    }

    void setClock(int maid, int clock) {
      if (maid >= 0 && maid < clocks.length) {
        clocks[maid] = clock;
      }
    }

    void pass(int maid, int minutes) {
      if (maid >= 0 && maid < clocks.length) {
        clocks[maid] += minutes;
      }
    }

    void goDown(int maid) {
      walkTo(maid, 0);
      pass(maid, 2);
      setLoad(maid, FULL_LOAD);
    }

    private void walkTo(int maid, int place) {
      pass(maid, Math.abs(placeOf(maid) - place));
      setPlace(maid, place);
    }

    // -- visits and rounds

    int visitBy(int maid, int room) {
      walkTo(maid, room + 1);
      return knock(maid, room, workOf(room));
    }

    int visitByBoth(int room) {
      walkTo(0, room + 1);
      walkTo(1, room + 1);
      setClock(0, laterClock());
      int end = knock(0, room, workOf(room) / 2 + 1);
      setClock(1, clockOf(0));
      return end;
    }

    private int knock(int maid, int room, int workMinutes) {
      if (isDone(room) || hasCard(room)) {
        return NOTHING_TO_DO;
      }
      pass(maid, 1);
      if (!guestOut(room, clockOf(maid))) {
        return IN_AT_THE_KNOCK;
      }
      if (loadOf(maid) < linenOf(room)) {
        fetchLinen(maid);
        if (!guestOut(room, clockOf(maid))) {
          return IN_BEHIND_LINEN;
        }
      }
      pass(maid, workMinutes);
      setLoad(maid, loadOf(maid) - linenOf(room));
      changeDone(room);
      return CLEANED;
    }

    private void fetchLinen(int maid) {
      pass(maid, 2 * placeOf(maid) + 4);
      setLoad(maid, FULL_LOAD);
      downs++;
    }

    void roundOver(int maid, int set) {
      for (int room = 0; room < rooms; room++) {
        if ((set >> room & 1) != 0) {
          visitBy(maid, room);
        }
      }
    }

    void longRound(int maid) {
      roundOver(maid, (1 << rooms) - 1);
    }
  }

  /** The letters that have come, and how they tell a corridor. */
  private static final class Telling {
    private static final int MOST_LETTERS = 96;
    private static final int WRONG_LETTER = -1000;
    private static final int WRONG_STATEMENT = -2000;

    private final int[] letters;
    private int length;

    Telling() {
      letters = new int[MOST_LETTERS];
      length = 0;
    }

    int length() {
      return length;
    }

    boolean isFull() {
      return length >= letters.length;
    }

    int take(int letter) {
      if (length >= 0 && length < letters.length) {
        letters[length] = letter;
        length++;
      }
      return length;
    }

    void forget() {
      length = 0;
    }

    /** How many statements came to the corridor; below 0 the fault, and then it is of no use. */
    int tellTo(Corridor corridor) {
      int wrong = wrongLetter();
      if (wrong >= 0) {
        return WRONG_LETTER - wrong;
      }
      int place = 0;
      int statements = 0;
      while (statements < length && place < length) {
        if (!comes(place, corridor)) {
          return WRONG_STATEMENT - place;
        }
        place = behindStatement(place);
        statements++;
      }
      return statements;
    }

    /** The place of the first letter that can't stand there; -1 if there is none. */
    private int wrongLetter() {
      if (length == 0) {
        return 0;
      }
      int place = 0;
      for (int i = 0; i < length && place < length; i++) {
        int wrong = wrongInStatement(place);
        if (wrong >= 0) {
          return wrong;
        }
        place = behindStatement(place);
      }
      return -1;
    }

    private int behindStatement(int start) {
      return start + signsOf(letterAt(start)) + 2;
    }

    private int wrongInStatement(int start) {
      int signs = signsOf(letterAt(start));
      if (signs == 0) {
        return start;
      }
      for (int i = 1; i <= signs; i++) {
        if (start + i >= length || !isSign(start, i)) {
          return start + i;
        }
      }
      int end = start + signs + 1;
      return letterAt(end) == ';' ? -1 : end;
    }

    /** How many signs a statement has between its letter and its ";"; 0 if no statement begins so. */
    private static int signsOf(int letter) {
      switch (letter) {
        case 'c':
        case 'd':
        case 'b': return 1;
        case 'r':
        case 'v': return 2;
        case 'm': return 3;
        case 't': return 4;
        default: return 0;
      }
    }

    private boolean isSign(int start, int i) {
      int letter = letterAt(start + i);
      if (letterAt(start) == 'r' && i == 1) {
        return Kinds.ofLetter(letter) >= 0;
      }
      return letter >= '0' && letter <= '9';
    }

    private int letterAt(int place) {
      return place >= 0 && place < length && place < letters.length ? letters[place] : -1;
    }

    /** Whether a statement is as it must be, behind all ahead of it: then it comes. */
    private boolean comes(int place, Corridor corridor) {
      int first = letterAt(place + 1) - '0';
      int second = letterAt(place + 2) - '0';
      int third = letterAt(place + 3) - '0';
      int fourth = letterAt(place + 4) - '0';
      switch (letterAt(place)) {
        case 'r':
          return corridor.addRoom(Kinds.ofLetter(letterAt(place + 1)), second);
        case 'c':
          if (!corridor.hasRoom(first)) {
            return false;
          }
          corridor.changeCard(first);
          return true;
        case 'd':
          if (!corridor.hasRoom(first)) {
            return false;
          }
          corridor.changeDone(first);
          return true;
        case 'm':
          return maidComes(corridor, first, second, third);
        case 't':
          if (!corridor.hasMaid(first)) {
            return false;
          }
          corridor.setClock(first, 100 * second + 10 * third + fourth);
          return true;
        case 'v':
          if (!corridor.hasMaid(first) || !corridor.hasRoom(second)) {
            return false;
          }
          corridor.visitBy(first, second);
          return corridor.laterClock() <= LAST_CLOCK;
        case 'b':
          if (!corridor.hasRoom(first)) {
            return false;
          }
          corridor.visitByBoth(first);
          return corridor.laterClock() <= LAST_CLOCK;
        default:
          return false;
      }
    }

    private static boolean maidComes(Corridor corridor, int maid, int place, int load) {
      if (!corridor.hasMaid(maid) || !corridor.hasPlace(place) || load > Corridor.FULL_LOAD) {
        return false;
      }
      corridor.setPlace(maid, place);
      corridor.setLoad(maid, load);
      return true;
    }
  }

  /** The best of what is offered: most done, of these the soonest, of these the first. */
  private static final class Best {
    private boolean some;
    private int name;
    private int done;
    private int time;

    Best() {
      some = false;
      name = 0;
      done = 0;
      time = 0;
    }

    void forget() {
      some = false;
      name = 0;
      done = 0;
      time = 0;
    }

    void offer(int offeredName, int offeredDone, int offeredTime) {
      boolean better = offeredDone > done || offeredDone == done && offeredTime < time;
      if (!some || better) {
        some = true;
        name = offeredName;
        done = offeredDone;
        time = offeredTime;
      }
    }

    /** 0 its name, 1 how many are done, 2 the time. */
    int answer(int what) {
      switch (what) {
        case 0: return name;
        case 1: return done;
        default: return time;
      }
    }
  }
}
