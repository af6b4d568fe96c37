import java.lang.reflect.Constructor;
import java.lang.reflect.Field;
import java.lang.reflect.Method;
import java.lang.reflect.Modifier;
import java.util.Set;
import java.util.TreeSet;

/** The public face: just what the document prints, nothing else that can be seen from outside. */
public final class FaceTest {
  private static final String[] FACE = {
    "int letter(int)", "int corridor()", "int room(int,int)", "int maid(int,int)", "int card(int)",
    "int undo(int)", "int turn(int,int,int)", "int places(int,int,int)", "int stays(int,int)",
    "int visits(int,int)", "int both(int)", "int down(int)", "int out(int,int)",
    "int nextOut(int,int)", "int howLong(int,int,int)", "int bothLong(int,int)",
    "int round(int,int)", "int swap(int)", "int nearest(int)", "int order(int,int,int)",
    "int share(int,int)", "int together(int,int)", "int leastLoad(int)", "int saves(int)",
    "int waitFor(int,int,int)", "int first(int)", "int cardBest(int)", "int tips(int)",
    "int dearest(int)", "int overlap(int,int,int)", "int two(int,int)", "long inspected(int,int)",
    "long likely(int,int,int,int)", "long mean(int)", "int whatIs(int,int)", "int row(int)",
    "int judge()", "int clear()", "int lots(int,int,int)", "int image()", "int on()",
    "int count(int)"};

  public static void main(String[] args) {
    Class<?> program = BackFromBreakfast.class;
    Check.due("modifiers", program.getModifiers(), Modifier.PUBLIC | Modifier.FINAL);
    Check.due("methods", FACE.length, 42);
    Set<String> seen = new TreeSet<>();
    for (Method method : program.getDeclaredMethods()) {
      if (!method.isSynthetic() && !Modifier.isPrivate(method.getModifiers())) {
        Check.due("modifiers of " + method.getName(), method.getModifiers(), Modifier.PUBLIC);
        seen.add(told(method));
      }
    }
    for (String method : FACE) {
      Check.holds("the face has " + method, seen.remove(method));
    }
    Check.holds("the face has nothing more: " + seen, seen.isEmpty());
    Constructor<?>[] constructors = program.getDeclaredConstructors();
    Check.due("constructors", constructors.length, 1);
    Check.due("its modifiers", constructors[0].getModifiers(), Modifier.PUBLIC);
    Check.due("its parameters", constructors[0].getParameterCount(), 0);
    for (Field field : program.getDeclaredFields()) {
      Check.holds("private: " + field.getName(), Modifier.isPrivate(field.getModifiers()));
    }
    Check.end("FaceTest");
  }

  private static String told(Method method) {
    StringBuilder parameters = new StringBuilder();
    for (Class<?> type : method.getParameterTypes()) {
      parameters.append(parameters.length() == 0 ? "" : ",").append(type.getSimpleName());
    }
    return method.getReturnType().getSimpleName() + " " + method.getName() + "(" + parameters + ")";
  }
}
