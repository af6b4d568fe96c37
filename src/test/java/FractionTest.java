/** Promises 33 to 35: what an inspector sees, guests who stay in by odds, the mean of the work. */
public final class FractionTest {
  public static void main(String[] args) {
    inspected();
    likely();
    mean();
    Check.end("FractionTest");
  }

  private static void inspectedIs(BackFromBreakfast x, int k, long above, long below) {
    Check.due("inspected(" + k + ", 0)", x.inspected(k, 0), above);
    Check.due("inspected(" + k + ", 1)", x.inspected(k, 1), below);
  }

  private static void inspected() {
    inspectedIs(new BackFromBreakfast(), 0, 0, 1);
    BackFromBreakfast x = Check.told("rr0;rr0;rr0;d0;");
    inspectedIs(x, 0, 0, 1);
    inspectedIs(x, 1, 2, 3);
    inspectedIs(x, 2, 1, 1);
    x.undo(1);
    inspectedIs(x, 1, 1, 3);
    inspectedIs(x, 2, 2, 3);
    inspectedIs(x, 3, 1, 1);
    x.undo(2);
    inspectedIs(x, 3, 0, 1);
    x = Check.told("rr0;rr0;rr0;rr0;rr0;rr0;rr0;rr0;d0;d1;d2;d3;d4;");
    // 1 less 5 over 4 by 8 over 4: 1 less 5 by 70
    inspectedIs(x, 4, 13, 14);
    inspectedIs(x, 2, 9, 14);
    inspectedIs(x, 8, 1, 1);
    x = Check.told("rr0;rr0;");
    Check.due("inspected(-1, 9)", x.inspected(-1, 9), Check.refusal(-4));
    Check.due("inspected(9, 9)", x.inspected(9, 9), Check.refusal(-6));
    Check.due("inspected(8, 9)", x.inspected(8, 9), Check.refusal(-3));
    Check.due("inspected(3, 0)", x.inspected(3, 0), 4000000000000000003L);
    Check.due("inspected(2, 2)", x.inspected(2, 2), Check.refusal(-2));
    Check.due("inspected(2, -1)", x.inspected(2, -1), Check.refusal(-2));
    Check.due("count(13)", x.count(13), 2);
    Check.due("count(12)", x.count(12), 2);
    Check.due("count(14)", x.count(14), 1);
    Check.due("count(16)", x.count(16), 1);
  }

  private static void likelyIs(BackFromBreakfast x, int v, int t, long above, long below) {
    Check.due("likely(0, " + v + ", " + t + ", 0)", x.likely(0, v, t, 0), above);
    Check.due("likely(0, " + v + ", " + t + ", 1)", x.likely(0, v, t, 1), below);
  }

  private static void likely() {
    likelyIs(new BackFromBreakfast(), 0, 2, 1, 1);
    likelyIs(new BackFromBreakfast(), 1, 2, 0, 1);
    BackFromBreakfast x = Check.told("rr0;");
    likelyIs(x, 0, 20, 1, 1);
    likelyIs(x, 1, 2, 1, 2);
    likelyIs(x, 1, 20, 19, 20);
    likelyIs(x, 2, 2, 0, 1);
    x.undo(0);
    likelyIs(x, 1, 2, 1, 1);
    x = Check.told("rr0;ru0;");
    String before = Check.state(x);
    likelyIs(x, 1, 2, 3, 4);
    likelyIs(x, 2, 2, 1, 4);
    likelyIs(x, 1, 3, 8, 9);
    likelyIs(x, 2, 4, 9, 16);
    x.card(1);
    likelyIs(x, 1, 3, 2, 3);
    x.card(1);
    Check.holds("in mind", before.equals(Check.state(x)));
    Check.due("out all the same", x.out(0, 0), 1);
    // 9, 10, knock 11; stays the first in, then 2, 3, knock 4: the second is in
    x = Check.told("rr0;rl1;");
    likelyIs(x, 1, 4, 3, 4);
    likelyIs(x, 2, 4, 9, 16);
    // 9, 10, knock 11 in vain; stays the first in, then 2, 3, knock 4, 11
    x = Check.told("rr0;rs0;");
    likelyIs(x, 1, 4, 15, 16);
    likelyIs(x, 2, 4, 0, 1);
    // 1 in 20, eight times: all of 19 by 20 to the 8
    x = Check.told("ru0;ru0;ru0;ru0;ru0;ru0;ru0;ru0;");
    likelyIs(x, 8, 20, 16983563041L, 25600000000L);
    likelyIs(x, 1, 20, 25599999999L, 25600000000L);
    likelyIs(x, 0, 20, 1, 1);
    // MAID 1 comes later
    x = Check.told("rl9;t1300;");
    Check.due("likely(1, 1, 3, 0)", x.likely(1, 1, 3, 0), 2);
    Check.due("likely(1, 1, 3, 1)", x.likely(1, 1, 3, 1), 3);
    Check.due("likely(0, 1, 3, 1)", x.likely(0, 1, 3, 1), 1);
    Check.due("likely(2, -1, 1, 2)", x.likely(2, -1, 1, 2), Check.refusal(-1));
    Check.due("likely(2, 0, 2, 0)", x.likely(2, 0, 2, 0), 4000000000000000001L);
    Check.due("likely(-1, 0, 2, 0)", x.likely(-1, 0, 2, 0), Check.refusal(-1));
    Check.due("likely(0, -1, 21, 2)", x.likely(0, -1, 21, 2), Check.refusal(-4));
    Check.due("likely(0, 9, 1, 2)", x.likely(0, 9, 1, 2), Check.refusal(-4));
    Check.due("likely(0, 9, 2, 2)", x.likely(0, 9, 2, 2), Check.refusal(-6));
    Check.due("likely(0, 8, 21, 2)", x.likely(0, 8, 21, 2), Check.refusal(-6));
    Check.due("likely(0, 8, 20, 2)", x.likely(0, 8, 20, 2), Check.refusal(-2));
    Check.due("likely(0, 8, 2, -1)", x.likely(0, 8, 2, -1), Check.refusal(-2));
  }

  private static void meanIs(BackFromBreakfast x, long above, long below) {
    Check.due("mean(0)", x.mean(0), above);
    Check.due("mean(1)", x.mean(1), below);
  }

  private static void mean() {
    meanIs(new BackFromBreakfast(), 0, 1);
    BackFromBreakfast x = Check.told("rr0;rl0;rp9;c0;");
    meanIs(x, 7 + 10 + 14, 3);
    x.undo(2);
    meanIs(x, 17, 2);
    x.undo(1);
    meanIs(x, 7, 1);
    x.undo(0);
    meanIs(x, 0, 1);
    x = Check.told("ru0;rr0;");
    meanIs(x, 5, 1);
    Check.due("mean(2)", x.mean(2), Check.refusal(-2));
    Check.due("mean(-1)", x.mean(-1), 4000000000000000002L);
  }
}
