import java.util.LinkedHashMap;
import java.util.Map;
import java.util.function.Supplier;
import java.util.function.ToLongFunction;

/**
 * Each call answers of what there is now, however it came to be so. Histories end in a state worked out by
 * hand and told anew, in letters alone, to a twin: each call, made first behind its history, answers as the twin.
 */
public final class EdgeNowTest {
  private static final Map<String, ToLongFunction<BackFromBreakfast>> CALLS = calls();

  private static String name;
  private static Supplier<BackFromBreakfast> history;
  private static String twin;

  public static void main(String[] args) {
    behindTurn();
    behindCardAndUndo();
    behindVisits();
    behindPlacesAndStays();
    behindAFault();
    behindOnToFewerRooms();
    behindOnToMoreRooms();
    behindLots();
    behindRefusedDeeds();
    Check.end("EdgeNowTest");
  }

  /** ROOMS and none, and a MINUTE of each pair, by which WHAT IT IS is asked, too. */
  private static BackFromBreakfast withRow(BackFromBreakfast x) {
    Check.row(x, 2, 1, 3, 1, 8, 9);
    return x;
  }

  private static void isAs(String told) {
    twin = told;
    for (Map.Entry<String, ToLongFunction<BackFromBreakfast>> call : CALLS.entrySet()) {
      long want = call.getValue().applyAsLong(withRow(Check.told(twin)));
      long got = call.getValue().applyAsLong(withRow(history.get()));
      Check.due(call.getKey() + " behind " + name, got, want);
    }
    BackFromBreakfast x = history.get();
    Check.holds("all is as told behind " + name, Check.state(x).equals(Check.state(Check.told(twin))));
  }

  private static void behind(String what, Supplier<BackFromBreakfast> made) {
    name = what;
    history = made;
  }

  private static void behindTurn() {
    behind("turn", () -> {
      BackFromBreakfast x = Check.told("rr0;rl1;rs2;rr0;rr0;d0;d2;c1;");
      x.turn(0, 3, 7);
      x.turn(1, 4, 2);
      x.turn(2, 5, 9);
      x.turn(3, 5, 8);
      x.turn(4, 1, 0);
      return x;
    });
    isAs("ra7;rb2;rp9;rp8;rl0;d0;d2;c1;");
    // TIPS 14 and 10; WORK 9, 14, 10 and LINEN 2, 3, 2 of those not DONE
    BackFromBreakfast x = history.get();
    Check.due("tips(0)", x.tips(0), 24);
    x = history.get();
    Check.due("tips(1)", x.tips(1), 1);
    x = history.get();
    Check.due("mean(0)", x.mean(0), 11);
    x = history.get();
    Check.due("dearest(0)", x.dearest(0), 3);
    x = history.get();
    Check.due("dearest(2)", x.dearest(2), 7);
    x = history.get();
    Check.row(x, 2, 1, 3, 1);
    // FIGURE 7: out at 2 is an UNSLEPT one alone; a LATE one is out at 3 by none
    Check.due("whatIs(0, 0)", x.whatIs(0, 0), 64);
    x = history.get();
    Check.row(x, 2, 1, 3, 1);
    Check.due("whatIs(0, 1)", x.whatIs(0, 1), 0);
  }

  private static void behindCardAndUndo() {
    behind("card, undo", () -> {
      BackFromBreakfast x = Check.told("rr0;rl1;rs2;ru4;c1;d2;");
      x.card(0);
      x.card(1);
      x.undo(2);
      x.undo(3);
      return x;
    });
    isAs("rr0;rl1;rs2;ru4;c0;d3;");
  }

  private static void behindVisits() {
    behind("visits, both, down", () -> {
      BackFromBreakfast x = Check.told("rr0;rl1;rs2;rp0;");
      // 9, LOAD 5; MAID 1: 2 STEPS, knock at 3 in vain; both at 10: knock 11, 17, LOAD 3; down 4
      x.visits(0, 0);
      x.visits(1, 1);
      x.both(1);
      x.down(0);
      return x;
    });
    isAs("rr0;rl1;rs2;rp0;d0;d1;m006;t0021;m126;t1017;");
  }

  private static void behindPlacesAndStays() {
    behind("places, stays", () -> {
      BackFromBreakfast x = Check.told("rr6;rl1;rs2;m016;t0008;");
      x.places(0, 3, 0);
      x.places(1, 2, 1);
      x.stays(0, 9);
      x.stays(1, 30);
      return x;
    });
    isAs("rr6;rl1;rs2;m030;t0017;m121;t1030;");
  }

  /** "Without FAULT all of it comes, with one nothing" */
  private static void behindAFault() {
    for (String fault : new String[] {"ru9;rp0;c0;d1;c3;m050;m140;t0300;t1400;v04;b3;c9;",
        "d0;d1;c2;rr0;rr0;rr0;rr0;rr0;rr0;", "rr9;rr9;rr9;d5;t0999;v05;"}) {
      behind("the FAULT of " + fault, () -> {
        BackFromBreakfast x = Check.told("rr0;rl1;rs2;d2;m013;t0030;");
        Check.holds("a FAULT", Check.tell(x, fault) <= -2000);
        return x;
      });
      isAs("rr0;rl1;rs2;d2;m013;t0030;");
    }
  }

  private static void behindOnToFewerRooms() {
    behind("on to fewer ROOMS", () -> {
      BackFromBreakfast x = Check.told("rr3;rl1;d1;m112;t1012;");
      x.image();
      Check.tell(x, "rp9;rp9;ra9;rb9;ru9;rp9;c0;d0;d1;d5;d7;m080;m186;t0500;t1600;");
      x.turn(0, 5, 5);
      x.nearest(0);
      x.on();
      return x;
    });
    isAs("rr3;rl1;d1;m112;t1012;");
    behind("on to no ROOMS and three told then", () -> {
      BackFromBreakfast x = new BackFromBreakfast();
      x.image();
      Check.tell(x, "rp9;rp9;ra9;rb9;c0;d0;d2;c3;m040;m146;t0500;t1600;");
      x.likely(1, 2, 3, 0);
      x.on();
      Check.tell(x, "rr1;rs2;ru3;");
      return x;
    });
    isAs("rr1;rs2;ru3;");
  }

  private static void behindOnToMoreRooms() {
    behind("on to more ROOMS", () -> {
      BackFromBreakfast x = new BackFromBreakfast();
      x.image();
      Check.tell(x, "rr0;rl1;rs2;ra3;rb4;rp5;ru6;rr7;d6;c7;m142;t1077;");
      BackFromBreakfast y = Check.told("rr0;rl1;rs2;ra3;rb4;rp5;ru6;rr7;d6;c7;m142;t1077;");
      y.image();
      x.on();
      Check.due("no ROOMS", x.count(0), 0);
      y.undo(0);
      y.turn(3, 0, 0);
      y.stays(0, 60);
      y.on();
      return y;
    });
    isAs("rr0;rl1;rs2;ra3;rb4;rp5;ru6;rr7;d6;c7;m142;t1077;");
  }

  /** The FIGURES drawn are of the mornings alone. */
  private static void behindLots() {
    behind("lots", () -> {
      BackFromBreakfast x = Check.told("rr5;rl1;rb2;d0;m103;t1044;");
      x.lots(20, 12345, 1);
      return x;
    });
    isAs("rr5;rl1;rb2;d0;m103;t1044;");
  }

  /** "nothing changes but how many there were": neither in truth nor for what is asked next */
  private static void behindRefusedDeeds() {
    behind("visits refused", () -> {
      BackFromBreakfast x = Check.told("rr0;rl1;ru2;t0997;t1998;");
      Check.due("visits", x.visits(0, 2), -6);
      return x;
    });
    isAs("rr0;rl1;ru2;t0997;t1998;");
    behind("both refused", () -> {
      BackFromBreakfast x = Check.told("rr0;rl1;ru2;t1998;");
      Check.due("both", x.both(2), -6);
      return x;
    });
    isAs("rr0;rl1;ru2;t1998;");
    behind("down refused", () -> {
      BackFromBreakfast x = Check.told("rr0;rl1;ru2;m131;t1998;");
      Check.due("down", x.down(1), -6);
      return x;
    });
    isAs("rr0;rl1;ru2;m131;t1998;");
  }

  // ---- the calls

  private static Map<String, ToLongFunction<BackFromBreakfast>> calls() {
    Map<String, ToLongFunction<BackFromBreakfast>> all = new LinkedHashMap<>();
    ofRooms(all);
    ofMaids(all);
    ofAll(all);
    return all;
  }

  /** Of each number a ROOM may have, of two ROOMS its next one, too. */
  private static void ofRooms(Map<String, ToLongFunction<BackFromBreakfast>> all) {
    for (int room = 0; room <= 8; room++) {
      int r = room;
      int next = (room + 1) % 9;
      for (int what = 0; what <= 6; what++) {
        int w = what;
        all.put("room " + r + " " + w, x -> x.room(r, w));
      }
      all.put("card " + r, x -> x.card(r));
      all.put("undo " + r, x -> x.undo(r));
      all.put("turn " + r, x -> x.turn(r, 6, 6));
      all.put("both " + r, x -> x.both(r));
      all.put("out " + r, x -> x.out(r, 25));
      all.put("nextOut " + r, x -> x.nextOut(r, 15));
      for (int what = 0; what <= 2; what++) {
        int w = what;
        all.put("bothLong " + r + " " + w, x -> x.bothLong(r, w));
        all.put("whatIs " + r + " " + w, x -> x.whatIs(r, w));
      }
      all.put("together " + r, x -> x.together(r, next));
      all.put("two " + r, x -> x.two(r, next));
      all.put("overlap " + r, x -> x.overlap(r, next, 50));
      all.put("inspected above " + r, x -> x.inspected(r, 0));
      all.put("inspected below " + r, x -> x.inspected(r, 1));
    }
  }

  private static void ofMaids(Map<String, ToLongFunction<BackFromBreakfast>> all) {
    for (int maid = 0; maid <= 1; maid++) {
      int m = maid;
      for (int what = 0; what <= 2; what++) {
        int w = what;
        all.put("maid " + m + w, x -> x.maid(m, w));
        all.put("round " + m + w, x -> x.round(m, w));
        for (int set : new int[] {0, 1, 3, 7, 14, 15, 31, 63, 248, 255}) {
          all.put("order " + m + w + " of " + set, x -> x.order(m, set, w));
        }
      }
      for (int number = 0; number <= 8; number++) {
        int n = number;
        all.put("visits " + m + n, x -> x.visits(m, n));
        all.put("howLong, MINUTES " + m + n, x -> x.howLong(m, n, 0));
        all.put("howLong, COMES TO " + m + n, x -> x.howLong(m, n, 1));
        all.put("waitFor " + m + n, x -> x.waitFor(m, n, 0));
        all.put("waitFor, MINUTES " + m + n, x -> x.waitFor(m, n, 1));
        all.put("places " + m + n, x -> x.places(m, n, 2));
        all.put("likely above " + m + n, x -> x.likely(m, n, 3, 0));
        all.put("likely below " + m + n, x -> x.likely(m, n, 3, 1));
      }
      all.put("stays " + m, x -> x.stays(m, 2));
      all.put("down " + m, x -> x.down(m));
      all.put("swap " + m, x -> x.swap(m));
      all.put("nearest " + m, x -> x.nearest(m));
      all.put("leastLoad " + m, x -> x.leastLoad(m));
      all.put("saves " + m, x -> x.saves(m));
      all.put("first " + m, x -> x.first(m));
      all.put("cardBest " + m, x -> x.cardBest(m));
    }
  }

  private static void ofAll(Map<String, ToLongFunction<BackFromBreakfast>> all) {
    for (int what = 0; what <= 2; what++) {
      int w = what;
      for (int set : new int[] {0, 1, 3, 7, 14, 15, 63, 248, 255, 256}) {
        all.put("share " + w + " of " + set, x -> x.share(set, w));
      }
      all.put("tips " + w, x -> x.tips(w));
      all.put("dearest " + w, x -> x.dearest(w));
      all.put("mean " + w, x -> x.mean(w));
      all.put("lots " + w, x -> x.lots(9, 99, w));
    }
    for (int what = 0; what <= 7; what++) {
      int w = what;
      all.put("count " + w, x -> x.count(w));
    }
    all.put("judge", x -> x.judge());
    all.put("image", x -> x.image());
    all.put("a ROOM more", x -> Check.tell(x, "rr0;"));
    all.put("six ROOMS more", x -> Check.tell(x, "rr0;rr0;rr0;rr0;rr0;rr0;"));
    all.put("a VISIT told", x -> Check.tell(x, "v01;b0;v10;m136;"));
    all.put("CARDS told", x -> Check.tell(x, "c0;c1;c2;c3;c4;"));
  }
}
