/** What all tests share: comparing answers, telling corridors, ending with the exit code. */
final class Check {
  static final long LONG_REFUSAL = 4000000000000000000L;

  private static int right = 0;
  private static int wrong = 0;

  private Check() {
  }

  static void due(String call, long got, long want) {
    if (got == want) {
      right++;
    } else {
      wrong++;
      System.out.println(call + " answered " + got + ", due is " + want);
    }
  }

  static void holds(String what, boolean so) {
    due(what, so ? 1 : 0, 1);
  }

  /** What a call of longs answers for a refusal. */
  static long refusal(int number) {
    return LONG_REFUSAL - number;
  }

  static int tell(BackFromBreakfast x, String text) {
    for (int i = 0; i < text.length(); i++) {
      x.letter(text.charAt(i));
    }
    return x.corridor();
  }

  /** A new object that has been told a corridor without fault. */
  static BackFromBreakfast told(String text) {
    BackFromBreakfast x = new BackFromBreakfast();
    int statements = tell(x, text);
    if (statements < 1) {
      wrong++;
      System.out.println("the corridor " + text + " was not taken: " + statements);
    }
    return x;
  }

  static void row(BackFromBreakfast x, int... numbers) {
    x.clear();
    for (int number : numbers) {
      x.row(number);
    }
  }

  /** All that can be read of rooms, maids, the row, letters and refusals, as one text. */
  static String seen(BackFromBreakfast x) {
    StringBuilder text = new StringBuilder();
    for (int what = 0; what <= 16; what++) {
      if (what < 8 || what > 10) {
        text.append(x.count(what)).append(' ');
      }
    }
    return text.append(state(x)).toString();
  }

  /** All that can be read of rooms and maids, as one text; no refusal is met. */
  static String state(BackFromBreakfast x) {
    StringBuilder text = new StringBuilder();
    for (int maid = 0; maid < 2; maid++) {
      for (int what = 0; what <= 2; what++) {
        text.append(x.maid(maid, what)).append(' ');
      }
    }
    for (int room = 0; room < x.count(0); room++) {
      for (int what = 0; what <= 6; what++) {
        text.append(x.room(room, what)).append(' ');
      }
    }
    return text.toString();
  }

  /**
   * All that an object holds, the numbers of the row, the letters and the image too, as one text. The row,
   * the letters and what is now are spent by it; refusals are not told.
   */
  static String spent(BackFromBreakfast x) {
    StringBuilder text = new StringBuilder();
    for (int what = 0; what <= 7; what++) {
      text.append(x.count(what)).append(' ');
    }
    text.append(state(x)).append("round ");
    for (int maid = 0; maid < 2; maid++) {
      text.append(x.swap(maid)).append(' ');
      for (int what = 0; what <= 2; what++) {
        text.append(x.round(maid, what)).append(' ');
      }
    }
    text.append("judge ").append(x.judge()).append(" told ").append(x.corridor()).append(' ').append(state(x));
    return text.append("image ").append(x.on()).append(' ').append(state(x)).toString();
  }

  /** How many refusals there were of each number, -1 to -6. */
  static String refusals(BackFromBreakfast x) {
    StringBuilder text = new StringBuilder();
    for (int what = 11; what <= 16; what++) {
      text.append(x.count(what)).append(' ');
    }
    return text.toString();
  }

  static void end(String name) {
    System.out.println(name + ": " + right + " as due, " + wrong + " not");
    System.exit(wrong == 0 && right > 0 ? 0 : 1);
  }
}
