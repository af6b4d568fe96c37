import java.util.Random;

/** Texts of corridors, mostly without fault, for the runs by lot. */
final class Texts {
  private Texts() {
  }

  static String corridor(Random random, boolean whole) {
    StringBuilder text = new StringBuilder();
    int rooms = 1 + random.nextInt(8);
    for (int i = 0; i < rooms; i++) {
      text.append(room(random));
    }
    int statements = random.nextInt(9);
    for (int i = 0; i < statements; i++) {
      text.append(statement(random, rooms));
    }
    return whole ? text.toString() : spoilt(random, text);
  }

  /** Statements for rooms that are there. */
  static String more(Random random, int rooms) {
    StringBuilder text = new StringBuilder();
    int statements = 1 + random.nextInt(4);
    for (int i = 0; i < statements; i++) {
      text.append(statement(random, Math.max(1, rooms)));
    }
    return random.nextInt(6) == 0 ? spoilt(random, text) : text.toString();
  }

  private static String room(Random random) {
    return "r" + "rlsabpu".charAt(random.nextInt(7)) + random.nextInt(10) + ";";
  }

  private static String statement(Random random, int rooms) {
    int maid = random.nextInt(2);
    int room = random.nextInt(rooms);
    return switch (random.nextInt(8)) {
      case 0 -> "c" + room + ";";
      case 1 -> "d" + room + ";";
      case 2 -> "m" + maid + random.nextInt(rooms + 1) + random.nextInt(7) + ";";
      case 3 -> "t" + maid + (random.nextInt(8) == 0 ? "99" : "0" + random.nextInt(10)) + random.nextInt(10) + ";";
      case 4 -> "b" + room + ";";
      case 5 -> random.nextInt(4) == 0 ? room(random) : "v" + maid + room + ";";
      default -> "v" + maid + room + ";";
    };
  }

  private static String spoilt(Random random, StringBuilder text) {
    int place = random.nextInt(text.length());
    switch (random.nextInt(4)) {
      case 0:
        text.setLength(place);
        break;
      case 1:
        text.deleteCharAt(place);
        break;
      case 2:
        text.insert(place, "rlsabpucdmtv;0189/:".charAt(random.nextInt(19)));
        break;
      default:
        text.setCharAt(place, "rlsabpucdmtv;0189/:".charAt(random.nextInt(19)));
        break;
    }
    return text.toString();
  }
}
