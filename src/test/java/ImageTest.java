/** Promises 41 to 43: the image, on from it, counts. */
public final class ImageTest {
  public static void main(String[] args) {
    image();
    whatTheImageIsNot();
    counts();
    Check.end("ImageTest");
  }

  private static void image() {
    BackFromBreakfast x = Check.told("rr0;rl2;rs3;c1;d2;m013;t1040;");
    Check.due("on() without an image", x.on(), -3);
    String then = Check.state(x);
    Check.due("image()", x.image(), 1);
    x.turn(0, 5, 9);
    x.card(0);
    x.undo(2);
    x.places(0, 3, 0);
    x.stays(1, 60);
    Check.tell(x, "ru1;ru2;");
    Check.due("on()", x.on(), 1);
    Check.holds("all is as then", then.equals(Check.state(x)));
    Check.due("count(0)", x.count(0), 3);
    Check.due("visits", x.visits(0, 0), 3);
    Check.due("the image stays", x.on(), 1);
    Check.holds("all is as then again", then.equals(Check.state(x)));
    x.visits(0, 0);
    Check.due("another image", x.image(), 2);
    x.undo(0);
    x.undo(2);
    Check.due("on() from the other", x.on(), 2);
    BackFromBreakfast empty = new BackFromBreakfast();
    Check.due("image() of nothing", empty.image(), 0);
    Check.tell(empty, "rr0;d0;");
    Check.due("on() to nothing", empty.on(), 0);
    Check.due("no rooms", empty.count(0), 0);
    Check.due("no room", empty.room(0, 0), -1);
    Check.tell(empty, "ru4;");
    Check.due("a new room is as told", empty.room(0, 0), 6);
    Check.due("a new room is not done", empty.room(0, 2), 0);
  }

  private static void whatTheImageIsNot() {
    BackFromBreakfast x = Check.told("rr0;");
    x.row(7);
    x.letter('c');
    x.image();
    x.row(8);
    x.letter('0');
    x.letter(';');
    Check.due("a refusal", x.card(5), -1);
    Check.due("on()", x.on(), 0);
    Check.due("the row goes on", x.count(6), 2);
    Check.due("the letters go on", x.count(7), 3);
    Check.due("the refusals go on", x.count(11), 1);
    Check.due("corridor()", x.corridor(), 1);
    Check.due("count(2)", x.count(2), 1);
  }

  private static void counts() {
    BackFromBreakfast x = Check.told("rr0;rr0;rr0;rr0;c0;c3;d1;d2;m012;t0100;m123;t1200;");
    x.row(5);
    x.letter('r');
    x.letter('r');
    long[] want = {4, 6, 9, 2, 200, 5, 1, 2, -9, -9, -9, 0, 0, 0, 0, 0, 0, -9};
    for (int what = 0; what < want.length; what++) {
      Check.due("count(" + what + ")", x.count(what), want[what]);
    }
    Check.due("count(-1)", x.count(-1), -9);
    Check.due("count(MIN)", x.count(Integer.MIN_VALUE), -9);
    Check.due("count(MAX)", x.count(Integer.MAX_VALUE), -9);
    Check.tell(x, ";t0300;");
    Check.tell(x, "t0300;");
    Check.due("the later CLOCK", x.count(4), 300);
    // refusals one by one: -1 once, -2 twice, -3 three times, -4 four times, -6 five times
    x.card(9);
    for (int i = 0; i < 5; i++) {
      refusedTimes(x, i);
    }
    Check.due("count(11)", x.count(11), 1);
    Check.due("count(12)", x.count(12), 2);
    Check.due("count(13)", x.count(13), 3);
    Check.due("count(14)", x.count(14), 4);
    Check.due("count(15)", x.count(15), 0);
    Check.due("count(16)", x.count(16), 5);
  }

  private static void refusedTimes(BackFromBreakfast x, int i) {
    if (i < 2) {
      x.mean(7);
    }
    if (i < 3) {
      x.on();
    }
    if (i < 4) {
      x.row(-1);
    }
    x.row(100);
  }
}
