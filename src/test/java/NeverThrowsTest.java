import java.lang.reflect.InvocationTargetException;
import java.lang.reflect.Method;
import java.lang.reflect.Modifier;
import java.util.ArrayList;
import java.util.Comparator;
import java.util.List;
import java.util.Random;

/** No call throws, in whatever state and with whatever numbers, nor behind the 512th call. */
public final class NeverThrowsTest {
  private static final int[] EDGES = {
    Integer.MIN_VALUE, Integer.MIN_VALUE + 1, -65536, -33, -32, -31, -9, -2, -1, 0, 1, 2, 7, 8, 9, 31, 32, 33,
    63, 64, 255, 256, 999, 1000, 65535, 1 << 30, Integer.MAX_VALUE - 1, Integer.MAX_VALUE};

  public static void main(String[] args) throws Exception {
    List<Method> calls = new ArrayList<>();
    for (Method method : BackFromBreakfast.class.getDeclaredMethods()) {
      if (Modifier.isPublic(method.getModifiers())) {
        calls.add(method);
      }
    }
    calls.sort(Comparator.comparing(Method::getName));
    for (int run = 0; run < 300; run++) {
      Random random = new Random(run);
      BackFromBreakfast x = new BackFromBreakfast();
      Check.tell(x, Texts.corridor(random, true));
      for (int i = 0; i < 1500; i++) {
        call(x, calls.get(random.nextInt(calls.size())), random);
      }
    }
    for (Method method : calls) {
      allEdges(method);
    }
    Check.end("NeverThrowsTest");
  }

  private static void call(BackFromBreakfast x, Method method, Random random) throws Exception {
    Object[] numbers = new Object[method.getParameterCount()];
    for (int i = 0; i < numbers.length; i++) {
      numbers[i] = random.nextInt(4) == 0 ? EDGES[random.nextInt(EDGES.length)] : random.nextInt(10);
    }
    answers(x, method, numbers);
  }

  /** Each pair of edges for the first two numbers, on an empty and on a full corridor. */
  private static void allEdges(Method method) throws Exception {
    for (int first : EDGES) {
      for (int second : EDGES) {
        Object[] numbers = new Object[method.getParameterCount()];
        for (int i = 0; i < numbers.length; i++) {
          numbers[i] = i == 0 ? first : second;
        }
        answers(new BackFromBreakfast(), method, numbers);
        answers(Check.told("rr0;rl1;rs2;ra3;rb4;rp5;ru6;rr7;"), method, numbers);
      }
    }
  }

  private static void answers(BackFromBreakfast x, Method method, Object[] numbers) throws Exception {
    boolean answered = true;
    try {
      method.invoke(x, numbers);
    } catch (InvocationTargetException e) {
      answered = false;
      System.out.println(method.getName() + List.of(numbers) + " threw " + e.getCause());
    }
    Check.holds("no throw", answered);
  }
}
