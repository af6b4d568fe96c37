import java.lang.reflect.Method;
import java.nio.file.Files;
import java.nio.file.Path;
import java.util.regex.Matcher;
import java.util.regex.Pattern;

/** The example of README.md is made as it stands there: each call answers the number behind its "//". */
public final class ReadmeTest {
  private static final Path README = Path.of("README.md");
  private static final Pattern EXAMPLE = Pattern.compile("```java\n(.*?)```", Pattern.DOTALL);
  private static final Pattern TOLD = Pattern.compile("\"([^\"]*)\"\\.toCharArray\\(\\)");
  private static final Pattern CALL = Pattern.compile("x\\.(\\w+)\\(([-0-9, ]*)\\);\\s*// (-?[0-9]+)\\b");

  public static void main(String[] args) throws Exception {
    Matcher example = EXAMPLE.matcher(Files.readString(README));
    Check.holds("README.md has an example", example.find());
    BackFromBreakfast x = new BackFromBreakfast();
    int calls = 0;
    for (String line : example.group(1).split("\n")) {
      Matcher told = TOLD.matcher(line);
      if (told.find()) {
        for (char c : told.group(1).toCharArray()) {
          x.letter(c);
        }
      }
      Matcher call = CALL.matcher(line);
      if (call.find()) {
        Check.due(line.trim(), answer(x, call.group(1), call.group(2)), Long.parseLong(call.group(3)));
        calls++;
      } else {
        Check.holds("no answer is told of: " + line, !line.matches("x\\..*"));
      }
    }
    Check.holds("calls of the example: " + calls, calls >= 6);
    Check.end("ReadmeTest");
  }

  private static long answer(BackFromBreakfast x, String name, String numbers) throws Exception {
    String[] texts = numbers.isBlank() ? new String[0] : numbers.split(",");
    Object[] arguments = new Object[texts.length];
    for (int i = 0; i < texts.length; i++) {
      arguments[i] = Integer.parseInt(texts[i].trim());
    }
    for (Method method : BackFromBreakfast.class.getMethods()) {
      if (method.getName().equals(name) && method.getParameterCount() == arguments.length) {
        return ((Number) method.invoke(x, arguments)).longValue();
      }
    }
    throw new IllegalStateException("no such call: " + name);
  }
}
