import java.lang.reflect.Method;
import java.lang.reflect.Modifier;
import java.util.ArrayList;
import java.util.Arrays;
import java.util.Comparator;
import java.util.List;
import java.util.Random;

/** Seeded runs of up to 512 calls: each answer of the program must be the model's. */
public final class ModelTest {
  private static final int RUNS = 4000;
  private static final int[] ODD = {
    Integer.MIN_VALUE, Integer.MIN_VALUE + 1, -1000, -32, -2, -1, 8, 9, 10, 16, 17, 20, 21, 31, 32,
    33, 60, 61, 96, 99, 100, 255, 256, 257, 511, 512, 999, 1000, Integer.MAX_VALUE - 1, Integer.MAX_VALUE};

  private static final List<Method> CALLS = calls();

  public static void main(String[] args) throws Exception {
    for (int run = 0; run < RUNS; run++) {
      play(run);
    }
    Check.end("ModelTest");
  }

  private static List<Method> calls() {
    List<Method> calls = new ArrayList<>();
    for (Method method : BackFromBreakfast.class.getDeclaredMethods()) {
      if (Modifier.isPublic(method.getModifiers())) {
        calls.add(method);
      }
    }
    // the order in which Java tells them is not promised
    calls.sort(Comparator.comparing(Method::getName));
    return calls;
  }

  private static void play(int run) throws Exception {
    Random random = new Random(run);
    BackFromBreakfast x = new BackFromBreakfast();
    Model model = new Model();
    StringBuilder told = new StringBuilder("run " + run + ":");
    String text = Texts.corridor(random, random.nextInt(10) != 0);
    int spent = tell(x, model, text);
    told.append(' ').append(text);
    while (spent < 480) {
      if (random.nextInt(12) == 0) {
        text = random.nextBoolean() ? Texts.more(random, x.count(0)) : Texts.corridor(random, false);
        spent += tell(x, model, text) + 1;
        told.append(' ').append(text);
      } else {
        Method call = CALLS.get(random.nextInt(CALLS.size()));
        Object[] args = arguments(call, random, x);
        told.append(' ').append(call.getName()).append(Arrays.toString(args));
        due(told, call, args, x, model);
        spent++;
      }
      if (random.nextInt(25) == 0) {
        Check.holds(told + " rooms and maids", Check.state(x).equals(state(model)));
        spent = spent + 6 + 7 * x.count(0);
      }
    }
  }

  private static int tell(BackFromBreakfast x, Model model, String text) {
    for (int i = 0; i < text.length(); i++) {
      Check.due("letter", x.letter(text.charAt(i)), model.letter(text.charAt(i)));
    }
    Check.due("corridor " + text, x.corridor(), model.corridor());
    return text.length() + 1;
  }

  private static void due(StringBuilder told, Method call, Object[] args, BackFromBreakfast x, Model model)
      throws Exception {
    long got = ((Number) call.invoke(x, args)).longValue();
    Method same = Model.class.getDeclaredMethod(call.getName(), call.getParameterTypes());
    long want = (Long) same.invoke(model, args);
    // the whole run is told only where it is wrong
    Check.due(got == want ? "" : told.toString(), got, want);
  }

  private static String state(Model model) {
    StringBuilder text = new StringBuilder();
    for (int maid = 0; maid < 2; maid++) {
      for (int what = 0; what <= 2; what++) {
        text.append(model.maid(maid, what)).append(' ');
      }
    }
    for (int room = 0; room < model.count(0); room++) {
      for (int what = 0; what <= 6; what++) {
        text.append(model.room(room, what)).append(' ');
      }
    }
    return text.toString();
  }

  private static Object[] arguments(Method call, Random random, BackFromBreakfast x) {
    int[] most = most(call.getName(), Math.max(1, x.count(0)), random);
    Object[] args = new Object[call.getParameterCount()];
    for (int i = 0; i < args.length; i++) {
      args[i] = random.nextInt(25) == 0 ? ODD[random.nextInt(ODD.length)] : random.nextInt(most[i] + 1);
    }
    if (call.getName().equals("order") && random.nextInt(3) != 0) {
      args[1] = (Integer) args[1] & random.nextInt(256) & 255;
    }
    return args;
  }

  /** The greatest number that is mostly drawn for each argument. */
  private static int[] most(String name, int rooms, Random random) {
    int sets = (1 << rooms) - 1;
    return switch (name) {
      case "letter" -> new int[] {255};
      case "room" -> new int[] {rooms, 7};
      case "maid" -> new int[] {1, 3};
      case "turn" -> new int[] {rooms - 1, 6, 9};
      case "places" -> new int[] {1, rooms, 6};
      case "stays" -> new int[] {1, 20};
      case "card", "undo", "both" -> new int[] {rooms - 1};
      case "out", "nextOut" -> new int[] {rooms - 1, 120};
      case "howLong", "waitFor" -> new int[] {1, rooms - 1, 1};
      case "visits" -> new int[] {1, rooms - 1};
      case "bothLong" -> new int[] {rooms - 1, 2};
      case "round" -> new int[] {1, 2};
      case "order" -> new int[] {1, sets, 2};
      case "share" -> new int[] {sets, 2};
      case "together", "two" -> new int[] {rooms - 1, rooms - 1};
      case "tips", "dearest" -> new int[] {2};
      case "overlap" -> new int[] {rooms - 1, rooms - 1, 99};
      case "inspected" -> new int[] {rooms, 1};
      case "likely" -> new int[] {1, rooms, 20, 1};
      case "mean" -> new int[] {1};
      case "whatIs" -> new int[] {rooms - 1, 1};
      case "row" -> new int[] {random.nextInt(3) == 0 ? 99 : rooms};
      case "lots" -> new int[] {20, Integer.MAX_VALUE - 1, 1};
      case "count" -> new int[] {17};
      default -> new int[] {1, 1, 1, 1};
    };
  }
}
