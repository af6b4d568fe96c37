import java.math.BigInteger;
import java.util.ArrayList;
import java.util.Comparator;
import java.util.List;
import java.util.function.Function;
import java.util.function.ToLongFunction;
import java.util.regex.Matcher;
import java.util.regex.Pattern;
import java.util.stream.IntStream;

/**
 * The document a second time, slow and with the whole library: rooms and maids are objects, every
 * thought is played on a deep copy, choices are all listed and sorted. It shares nothing with the
 * program, so that one slip is not made in both.
 */
final class Model {
  private static final Pattern CORRIDOR = Pattern.compile(
      "(?:r[rlsabpu][0-9];|[cdb][0-9];|m[0-9]{3};|t[0-9]{4};|v[0-9]{2};)+");

  static final class Room {
    char kind;
    int figure;
    boolean done;
    boolean card;
    boolean neverOut;

    Room(char kind, int figure) {
      this.kind = kind;
      this.figure = figure;
    }

    Room copy() {
      Room other = new Room(kind, figure);
      other.done = done;
      other.card = card;
      other.neverOut = neverOut;
      return other;
    }

    boolean left() {
      return "lap".indexOf(kind) >= 0;
    }

    boolean out(int t) {
      if (neverOut) {
        return false;
      }
      if (kind == 'u') {
        return true;
      }
      if (left()) {
        return t >= 10 * figure && (kind != 'a' || t % 2 == 0);
      }
      if (kind == 'r') {
        return t % 20 >= figure;
      }
      return Math.floorMod(t - figure, 20) <= 9;
    }

    int work() {
      int plain = 7;
      int left = plain + 3;
      return switch (kind) {
        case 'l', 'a' -> left;
        case 'p' -> left + figure / 2;
        case 'b' -> plain + figure;
        case 'u' -> plain / 2;
        default -> plain;
      };
    }

    int linen() {
      int plain = 1;
      int left = plain + 1;
      return switch (kind) {
        case 'l', 'a' -> left;
        case 'p' -> left + 1;
        case 'b' -> plain + 1;
        case 'u' -> 0;
        default -> plain;
      };
    }

    int tip() {
      return switch (kind) {
        case 's' -> 0;
        case 'b' -> 0 + 3;
        case 'a' -> 2 * figure;
        case 'p' -> figure + 1;
        default -> figure;
      };
    }
  }

  static final class Maid {
    int at = 0;
    int load = 6;
    int clock = 0;

    Maid copy() {
      Maid other = new Maid();
      other.at = at;
      other.load = load;
      other.clock = clock;
      return other;
    }

    void go(int place) {
      clock += place > at ? place - at : at - place;
      at = place;
    }

    void down() {
      go(0);
      clock += 2;
      load = 6;
    }
  }

  static final class World {
    final List<Room> rooms = new ArrayList<>();
    final Maid[] maids = {new Maid(), new Maid()};
    int downs = 0;

    World copy() {
      World other = new World();
      for (Room room : rooms) {
        other.rooms.add(room.copy());
      }
      other.maids[0] = maids[0].copy();
      other.maids[1] = maids[1].copy();
      return other;
    }

    int visit(int maid, int number) {
      Maid her = maids[maid];
      her.go(number + 1);
      return inside(her, rooms.get(number), false);
    }

    int visitByBoth(int number) {
      maids[0].go(number + 1);
      maids[1].go(number + 1);
      int later = later();
      maids[0].clock = later;
      maids[1].clock = later;
      int end = inside(maids[0], rooms.get(number), true);
      maids[1].clock = maids[0].clock;
      return end;
    }

    private int inside(Maid her, Room room, boolean both) {
      if (room.done || room.card) {
        return 0;
      }
      her.clock++;
      if (!room.out(her.clock)) {
        return 1;
      }
      if (her.load < room.linen()) {
        her.clock += 2 * her.at + 4;
        her.load = 6;
        downs++;
        if (!room.out(her.clock)) {
          return 2;
        }
      }
      her.clock += both ? room.work() / 2 + 1 : room.work();
      her.load -= room.linen();
      room.done = true;
      return 3;
    }

    World round(int maid, List<Integer> numbers) {
      for (int number : numbers) {
        if (number < rooms.size()) {
          visit(maid, number);
        }
      }
      return this;
    }

    World longRound(int maid) {
      return round(maid, IntStream.range(0, rooms.size()).boxed().toList());
    }

    int later() {
      return Math.max(maids[0].clock, maids[1].clock);
    }

    int done() {
      return (int) rooms.stream().filter(room -> room.done).count();
    }

    int bits(Function<Room, Boolean> which) {
      int bits = 0;
      for (int i = 0; i < rooms.size(); i++) {
        bits += which.apply(rooms.get(i)) ? 1 << i : 0;
      }
      return bits;
    }
  }

  /** One choice of several, with what it leads to. */
  record Choice(long name, long done, long time) {
  }

  private static final Comparator<Choice> SOONEST =
      Comparator.comparingLong(Choice::time).thenComparingLong(Choice::name);
  private static final Comparator<Choice> MOST_DONE =
      Comparator.comparingLong((Choice c) -> -c.done()).thenComparing(SOONEST);

  World now = new World();
  World kept = null;
  String letters = "";
  List<Integer> row = new ArrayList<>();
  final int[] refusals = new int[7];

  private long no(int number) {
    refusals[-number]++;
    return number;
  }

  private long noLong(int number) {
    return 4000000000000000000L - no(number);
  }

  private boolean maidIs(int maid) {
    return maid == 0 || maid == 1;
  }

  private boolean roomIs(int room) {
    return 0 <= room && room < now.rooms.size();
  }

  private long first(List<Choice> choices, Comparator<Choice> by) {
    return choices.stream().min(by).map(Choice::name).orElse(-9L);
  }

  private static long longOf(boolean so) {
    return so ? 1 : 0;
  }

  private int minutes(World then, int maid) {
    return then.maids[maid].clock - now.maids[maid].clock;
  }

  long letter(int c) {
    if (c < 0) {
      return no(-4);
    }
    if (c > 255 || letters.length() == 96) {
      return no(-6);
    }
    letters += (char) c;
    return letters.length();
  }

  long corridor() {
    String text = letters;
    letters = "";
    Matcher matcher = CORRIDOR.matcher(text);
    if (!matcher.matches()) {
      int place = 0;
      while (place < text.length() && canGoOn(text.substring(0, place + 1))) {
        place++;
      }
      return -1000 - place;
    }
    World then = now.copy();
    int place = 0;
    String[] statements = text.split(";");
    for (String statement : statements) {
      if (!comes(statement, then)) {
        return -2000 - place;
      }
      place += statement.length() + 1;
    }
    now = then;
    return statements.length;
  }

  private static boolean canGoOn(String start) {
    Matcher matcher = CORRIDOR.matcher(start);
    return matcher.matches() || matcher.hitEnd();
  }

  private static boolean comes(String statement, World world) {
    int size = world.rooms.size();
    int a = Character.digit(statement.charAt(1), 10);
    int b = statement.length() > 2 ? Character.digit(statement.charAt(2), 10) : 0;
    switch (statement.charAt(0)) {
      case 'r':
        world.rooms.add(new Room(statement.charAt(1), b));
        return size < 8;
      case 'c':
        if (a < size) {
          world.rooms.get(a).card = !world.rooms.get(a).card;
        }
        return a < size;
      case 'd':
        if (a < size) {
          world.rooms.get(a).done = !world.rooms.get(a).done;
        }
        return a < size;
      case 'm':
        int load = Character.digit(statement.charAt(3), 10);
        if (a > 1 || b > size || load > 6) {
          return false;
        }
        world.maids[a].at = b;
        world.maids[a].load = load;
        return true;
      case 't':
        if (a < 2) {
          world.maids[a].clock = Integer.parseInt(statement.substring(2));
        }
        return a < 2;
      case 'v':
        if (a > 1 || b >= size) {
          return false;
        }
        world.visit(a, b);
        return world.later() < 1000;
      default:
        if (a >= size) {
          return false;
        }
        world.visitByBoth(a);
        return world.later() < 1000;
    }
  }

  long room(int room, int what) {
    if (!roomIs(room)) {
      return no(-1);
    }
    Room it = now.rooms.get(room);
    return switch (what) {
      case 0 -> "rlsabpu".indexOf(it.kind);
      case 1 -> it.figure;
      case 2 -> longOf(it.done);
      case 3 -> longOf(it.card);
      case 4 -> it.work();
      case 5 -> it.linen();
      case 6 -> it.tip();
      default -> no(-2);
    };
  }

  long maid(int maid, int what) {
    if (!maidIs(maid)) {
      return no(-1);
    }
    Maid her = now.maids[maid];
    return switch (what) {
      case 0 -> her.at;
      case 1 -> her.load;
      case 2 -> her.clock;
      default -> no(-2);
    };
  }

  long card(int room) {
    if (!roomIs(room)) {
      return no(-1);
    }
    return longOf(now.rooms.get(room).card ^= true);
  }

  long undo(int room) {
    if (!roomIs(room)) {
      return no(-1);
    }
    return longOf(now.rooms.get(room).done ^= true);
  }

  long turn(int room, int kind, int figure) {
    if (!roomIs(room)) {
      return no(-1);
    }
    if (kind < 0 || kind > 6) {
      return no(-2);
    }
    if (figure < 0 || figure > 9) {
      return no(figure < 0 ? -4 : -6);
    }
    Room it = now.rooms.get(room);
    long had = 10L * "rlsabpu".indexOf(it.kind) + it.figure;
    it.kind = "rlsabpu".charAt(kind);
    it.figure = figure;
    return had;
  }

  long places(int maid, int place, int load) {
    if (!maidIs(maid) || place < 0 || place > now.rooms.size()) {
      return no(-1);
    }
    if (load < 0 || load > 6) {
      return no(load < 0 ? -4 : -6);
    }
    Maid her = now.maids[maid];
    long had = 10L * her.at + her.load;
    her.at = place;
    her.load = load;
    return had;
  }

  long stays(int maid, int n) {
    if (!maidIs(maid)) {
      return no(-1);
    }
    if (n <= 0) {
      return no(-4);
    }
    if (n > 60 || now.maids[maid].clock > 999 - n) {
      return no(-6);
    }
    return now.maids[maid].clock += n;
  }

  private long inTruth(World then, long answer) {
    if (then.later() > 999) {
      return no(-6);
    }
    now = then;
    return answer;
  }

  long visits(int maid, int room) {
    if (!maidIs(maid) || !roomIs(room)) {
      return no(-1);
    }
    World then = now.copy();
    return inTruth(then, then.visit(maid, room));
  }

  long both(int room) {
    if (!roomIs(room)) {
      return no(-1);
    }
    World then = now.copy();
    return inTruth(then, then.visitByBoth(room));
  }

  long down(int maid) {
    if (!maidIs(maid)) {
      return no(-1);
    }
    World then = now.copy();
    then.maids[maid].down();
    return inTruth(then, minutes(then, maid));
  }

  private long minuteOf(int room, int t, ToLongFunction<Room> answer) {
    if (!roomIs(room)) {
      return no(-1);
    }
    if (t < 0 || t > 999) {
      return no(t < 0 ? -4 : -6);
    }
    return answer.applyAsLong(now.rooms.get(room));
  }

  long out(int room, int t) {
    return minuteOf(room, t, it -> longOf(it.out(t)));
  }

  long nextOut(int room, int t) {
    return minuteOf(room, t, it -> IntStream.range(t, t + 61).filter(it::out).findFirst().orElse(-9));
  }

  long howLong(int maid, int room, int what) {
    if (!maidIs(maid) || !roomIs(room)) {
      return no(-1);
    }
    if (what != 0 && what != 1) {
      return no(-2);
    }
    World then = now.copy();
    int end = then.visit(maid, room);
    return what == 0 ? minutes(then, maid) : end;
  }

  long bothLong(int room, int what) {
    if (!roomIs(room)) {
      return no(-1);
    }
    if (what != 0 && what != 1 && what != 2) {
      return no(-2);
    }
    World then = now.copy();
    int end = then.visitByBoth(room);
    return what == 0 ? minutes(then, 0) : what == 1 ? minutes(then, 1) : end;
  }

  long round(int maid, int what) {
    if (!maidIs(maid)) {
      return no(-1);
    }
    if (what != 0 && what != 1 && what != 2) {
      return no(-2);
    }
    World then = now.copy().round(maid, row);
    int become = then.bits(room -> room.done) - now.bits(room -> room.done);
    return what == 0 ? minutes(then, maid) : what == 1 ? become : then.downs;
  }

  long swap(int maid) {
    if (!maidIs(maid)) {
      return no(-1);
    }
    int asIs = minutes(now.copy().round(maid, row), maid);
    List<Choice> choices = new ArrayList<>();
    for (int lesser = 0; lesser < row.size(); lesser++) {
      for (int greater = lesser + 1; greater < row.size(); greater++) {
        List<Integer> changed = new ArrayList<>(row);
        changed.set(lesser, row.get(greater));
        changed.set(greater, row.get(lesser));
        int time = minutes(now.copy().round(maid, changed), maid);
        if (time < asIs) {
          choices.add(new Choice(16L * lesser + greater, 0, time));
        }
      }
    }
    return first(choices, SOONEST);
  }

  long nearest(int maid) {
    if (!maidIs(maid)) {
      return no(-1);
    }
    List<Choice> choices = new ArrayList<>();
    for (int room = 0; room < now.rooms.size(); room++) {
      World then = now.copy();
      if (then.visit(maid, room) == 3) {
        choices.add(new Choice(room, 0, minutes(then, maid)));
      }
    }
    return first(choices, SOONEST);
  }

  private List<Integer> roomsOf(int set) {
    return IntStream.range(0, 31).filter(i -> (set & 1 << i) != 0).boxed().toList();
  }

  private void orders(List<Integer> ahead, List<Integer> left, List<List<Integer>> all) {
    if (left.isEmpty()) {
      all.add(List.copyOf(ahead));
    }
    for (Integer one : left) {
      List<Integer> more = new ArrayList<>(ahead);
      more.add(one);
      List<Integer> fewer = new ArrayList<>(left);
      fewer.remove(one);
      orders(more, fewer, all);
    }
  }

  private long told(Choice choice, int what) {
    return what == 0 ? choice.name() : what == 1 ? choice.done() : choice.time();
  }

  long order(int maid, int set, int what) {
    if (!maidIs(maid)) {
      return no(-1);
    }
    if (set < 0) {
      return no(-4);
    }
    List<Integer> rooms = roomsOf(set);
    if (!rooms.stream().allMatch(this::roomIs)) {
      return no(-6);
    }
    if (rooms.size() > 5) {
      return no(-3);
    }
    if (what < 0 || what > 2) {
      return no(-2);
    }
    List<List<Integer>> all = new ArrayList<>();
    orders(List.of(), rooms, all);
    List<Choice> choices = new ArrayList<>();
    for (List<Integer> one : all) {
      World then = now.copy().round(maid, one);
      StringBuilder digits = new StringBuilder("0");
      one.forEach(room -> digits.append(room + 1));
      choices.add(new Choice(Long.parseLong(digits.toString()), then.done(), minutes(then, maid)));
    }
    return told(choices.stream().min(MOST_DONE).orElseThrow(), what);
  }

  long share(int set, int what) {
    if (set < 0) {
      return no(-4);
    }
    List<Integer> rooms = roomsOf(set);
    if (!rooms.stream().allMatch(this::roomIs)) {
      return no(-6);
    }
    if (what < 0 || what > 2) {
      return no(-2);
    }
    List<Choice> choices = new ArrayList<>();
    for (int hers = 0; hers < 256; hers++) {
      if ((hers | set) == set) {
        World then = now.copy().round(0, roomsOf(set - hers)).round(1, roomsOf(hers));
        choices.add(new Choice(hers, then.done(), then.later()));
      }
    }
    return told(choices.stream().min(MOST_DONE).orElseThrow(), what);
  }

  private boolean twoRooms(int a, int b) {
    return roomIs(a) && roomIs(b) && a != b;
  }

  long together(int a, int b) {
    if (!twoRooms(a, b)) {
      return no(-1);
    }
    World together = now.copy();
    together.visitByBoth(a);
    together.visitByBoth(b);
    World alone = now.copy();
    alone.visit(0, a);
    alone.visit(1, b);
    if (together.done() != alone.done()) {
      return together.done() > alone.done() ? 0 : 1;
    }
    int later = Integer.compare(together.later(), alone.later());
    return later == 0 ? -9 : later < 0 ? 0 : 1;
  }

  long leastLoad(int maid) {
    if (!maidIs(maid)) {
      return no(-1);
    }
    return IntStream.rangeClosed(0, 6).filter(load -> {
      World then = now.copy();
      then.maids[maid].load = load;
      return then.longRound(maid).downs == 0;
    }).findFirst().orElse(-9);
  }

  long saves(int maid) {
    if (!maidIs(maid)) {
      return no(-1);
    }
    World asIs = now.copy().longRound(maid);
    World other = now.copy();
    other.maids[maid].down();
    other.longRound(maid);
    return other.done() < asIs.done() ? 0 : Math.max(0, minutes(asIs, maid) - minutes(other, maid));
  }

  long waitFor(int maid, int room, int what) {
    if (!maidIs(maid) || !roomIs(room)) {
      return no(-1);
    }
    if (what != 0 && what != 1) {
      return no(-2);
    }
    List<Choice> choices = new ArrayList<>();
    for (int w = 0; w <= 30; w++) {
      World then = now.copy();
      then.maids[maid].clock += w;
      if (then.visit(maid, room) == 3) {
        choices.add(new Choice(w, 0, minutes(then, maid)));
      }
    }
    return choices.stream().min(SOONEST).map(c -> what == 0 ? c.name() : c.time()).orElse(-9L);
  }

  long first(int maid) {
    if (!maidIs(maid)) {
      return no(-1);
    }
    World then = now.copy().longRound(maid);
    return IntStream.range(0, now.rooms.size())
        .filter(i -> then.rooms.get(i).done && !now.rooms.get(i).done && now.rooms.get(i).left())
        .findFirst().orElse(-9);
  }

  long cardBest(int maid) {
    if (!maidIs(maid)) {
      return no(-1);
    }
    World asIs = now.copy().longRound(maid);
    List<Choice> choices = new ArrayList<>();
    for (int room = 0; room < now.rooms.size(); room++) {
      World then = now.copy();
      boolean had = then.rooms.get(room).card;
      then.rooms.get(room).card = true;
      then.longRound(maid);
      if (!had && then.done() >= asIs.done() && minutes(then, maid) < minutes(asIs, maid)) {
        choices.add(new Choice(room, 0, minutes(then, maid)));
      }
    }
    return first(choices, SOONEST);
  }

  long tips(int what) {
    if (what < 0 || what > 2) {
      return no(-2);
    }
    int done = now.bits(room -> room.done);
    int all = roomsOf(done).stream().mapToInt(i -> now.rooms.get(i).tip()).sum();
    List<Choice> choices = new ArrayList<>();
    for (int one = 0; one < 256; one++) {
      if ((one | done) == done) {
        int share = roomsOf(one).stream().mapToInt(i -> now.rooms.get(i).tip()).sum();
        choices.add(new Choice(one, 0, Math.abs(share - (all - share))));
      }
    }
    Choice best = choices.stream().min(SOONEST).orElseThrow();
    return what == 0 ? all : what == 1 ? best.name() : best.time();
  }

  long dearest(int what) {
    List<Choice> choices = new ArrayList<>();
    int linen = 0;
    for (int i = 0; i < now.rooms.size(); i++) {
      if (!now.rooms.get(i).done) {
        choices.add(new Choice(i, 0, -now.rooms.get(i).work()));
        linen += now.rooms.get(i).linen();
      }
    }
    return switch (what) {
      case 0 -> first(choices, SOONEST);
      case 1 -> now.bits(room -> room.out(now.maids[0].clock));
      case 2 -> linen;
      default -> no(-2);
    };
  }

  long overlap(int a, int b, int n) {
    if (!twoRooms(a, b)) {
      return no(-1);
    }
    if (n < 0 || n > 99) {
      return no(n < 0 ? -4 : -6);
    }
    int from = now.maids[0].clock;
    return IntStream.range(from, from + n)
        .filter(now.rooms.get(a)::out).filter(now.rooms.get(b)::out).count();
  }

  long two(int a, int b) {
    if (!twoRooms(a, b)) {
      return no(-1);
    }
    int[] rooms = {a, b};
    int[][][] clock = new int[2][2][2];
    for (int i = 0; i < 2; i++) {
      for (int j = 0; j < 2; j++) {
        World then = now.copy();
        if (i == j) {
          then.visitByBoth(rooms[i]);
        } else {
          then.visit(0, rooms[i]);
          then.visit(1, rooms[j]);
        }
        clock[i][j][0] = then.maids[0].clock;
        clock[i][j][1] = then.maids[1].clock;
      }
    }
    for (int pair : new int[] {0, 1, 10, 11}) {
      int i = pair / 10;
      int j = pair % 10;
      if (clock[i][j][0] <= clock[1 - i][j][0] && clock[i][j][1] <= clock[i][1 - j][1]) {
        return pair;
      }
    }
    return -9;
  }

  private static long part(BigInteger above, BigInteger below, int part) {
    if (above.signum() == 0) {
      return part;
    }
    BigInteger divisor = above.gcd(below);
    return (part == 0 ? above : below).divide(divisor).longValueExact();
  }

  long inspected(int k, int part) {
    if (k < 0) {
      return noLong(-4);
    }
    if (k > 8) {
      return noLong(-6);
    }
    int size = now.rooms.size();
    if (k > size) {
      return noLong(-3);
    }
    if (part != 0 && part != 1) {
      return noLong(-2);
    }
    int done = now.bits(room -> room.done);
    long all = IntStream.range(0, 1 << size).filter(s -> Integer.bitCount(s) == k).count();
    long found = IntStream.range(0, 1 << size)
        .filter(s -> Integer.bitCount(s) == k && (s & ~done) != 0).count();
    return part(BigInteger.valueOf(found), BigInteger.valueOf(all), part);
  }

  /** The sum of the weights of all that can be with the guests from the room on, as shares of t to the rooms. */
  private BigInteger weight(World world, int from, int maid, int v, int t) {
    if (from == world.rooms.size()) {
      return world.copy().longRound(maid).done() >= v ? BigInteger.ONE : BigInteger.ZERO;
    }
    world.rooms.get(from).neverOut = true;
    BigInteger in = weight(world, from + 1, maid, v, t);
    world.rooms.get(from).neverOut = false;
    return in.add(BigInteger.valueOf(t - 1).multiply(weight(world, from + 1, maid, v, t)));
  }

  long likely(int maid, int v, int t, int part) {
    if (!maidIs(maid)) {
      return noLong(-1);
    }
    if (v < 0 || t < 2) {
      return noLong(-4);
    }
    if (v > 8 || t > 20) {
      return noLong(-6);
    }
    if (part != 0 && part != 1) {
      return noLong(-2);
    }
    BigInteger all = BigInteger.valueOf(t).pow(now.rooms.size());
    return part(weight(now.copy(), 0, maid, v, t), all, part);
  }

  long mean(int part) {
    if (part != 0 && part != 1) {
      return noLong(-2);
    }
    List<Room> left = now.rooms.stream().filter(room -> !room.done).toList();
    int work = left.stream().mapToInt(Room::work).sum();
    return part(BigInteger.valueOf(work), BigInteger.valueOf(left.size()), part);
  }

  private boolean allSo(char kind, int figure) {
    Room room = new Room(kind, figure);
    return IntStream.range(0, row.size() / 2)
        .allMatch(i -> room.out(row.get(2 * i)) == (row.get(2 * i + 1) > 0));
  }

  long whatIs(int room, int what) {
    if (!roomIs(room)) {
      return no(-1);
    }
    if (what != 0 && what != 1) {
      return no(-2);
    }
    if ((row.size() & 1) == 1) {
      return no(-3);
    }
    Room it = now.rooms.get(room);
    return what == 0
        ? IntStream.range(0, 7).filter(k -> allSo("rlsabpu".charAt(k), it.figure)).map(k -> 1 << k).sum()
        : IntStream.range(0, 10).filter(f -> allSo(it.kind, f)).map(f -> 1 << f).sum();
  }

  long row(int v) {
    if (v < 0) {
      return no(-4);
    }
    if (v > 99 || row.size() == 16) {
      return no(-6);
    }
    row.add(v);
    return row.size();
  }

  long judge() {
    World then = now.copy().round(0, row);
    List<Integer> judged = row;
    row = new ArrayList<>();
    return IntStream.range(0, judged.size())
        .filter(i -> !roomIs(judged.get(i)) || !then.rooms.get(judged.get(i)).done)
        .findFirst().orElse(-9);
  }

  long clear() {
    int had = row.size();
    row = new ArrayList<>();
    return had;
  }

  long lots(int n, int z, int what) {
    if (n < 1) {
      return no(-4);
    }
    if (n > 20) {
      return no(-6);
    }
    if (what != 0 && what != 1) {
      return no(-2);
    }
    BigInteger seed = BigInteger.valueOf(z);
    long done = 0;
    long minutes = 0;
    for (int morning = 0; morning < n; morning++) {
      World then = now.copy();
      for (Room room : then.rooms) {
        seed = BigInteger.valueOf(
            seed.multiply(BigInteger.valueOf(1664525)).add(BigInteger.valueOf(1013904223)).intValue());
        room.figure = seed.mod(BigInteger.TWO.pow(31)).divide(BigInteger.valueOf(256)).intValue() % 10;
      }
      then.longRound(0);
      done += then.done();
      minutes += minutes(then, 0);
    }
    return what == 0 ? done : minutes;
  }

  long image() {
    kept = now.copy();
    return now.done();
  }

  long on() {
    if (kept == null) {
      return no(-3);
    }
    now = kept.copy();
    return now.done();
  }

  long count(int what) {
    return switch (what) {
      case 0 -> now.rooms.size();
      case 1 -> now.bits(room -> room.done);
      case 2 -> now.bits(room -> room.card);
      case 3 -> now.done();
      case 4 -> now.later();
      case 5 -> now.maids[0].load + now.maids[1].load;
      case 6 -> row.size();
      case 7 -> letters.length();
      case 11, 12, 13, 14, 15, 16 -> refusals[what - 10];
      default -> -9;
    };
  }
}
