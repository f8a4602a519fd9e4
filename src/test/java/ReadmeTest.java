import java.io.IOException;
import java.lang.reflect.Method;
import java.lang.reflect.Modifier;
import java.nio.file.Files;
import java.nio.file.Path;
import java.util.HashMap;
import java.util.Map;
import java.util.regex.Matcher;
import java.util.regex.Pattern;

/** Makes each call of the examples in README.md, and compares its answer with the one that stands behind it. */
public final class ReadmeTest {
  private static final Pattern EXAMPLE = Pattern.compile("(?s)```java\n(.*?)```");
  private static final Pattern NEW_OBJECT = Pattern.compile("ContractFrames x = new ContractFrames\\(\\);");
  private static final Pattern CALL =
      Pattern.compile("(?:int (\\w+) = )?x\\.(\\w+)\\(([^)]*)\\); *// (-?\\d+|[A-Z]+)(?:: .*)?");

  private static int calls = 0;

  private final Map<String, Integer> names = new HashMap<>();
  private ContractFrames x;

  private static Method method(String name) {
    for (Method m : ContractFrames.class.getMethods()) if (m.getName().equals(name)) return m;
    throw new IllegalArgumentException("README.md names a method that there is not: " + name);
  }

  private static int answer(String word) throws ReflectiveOperationException {
    return Character.isLetter(word.charAt(0)) ? ContractFrames.class.getField(word).getInt(null) : Integer.parseInt(word);
  }

  private Object argument(String word) {
    if (word.equals("true") || word.equals("false")) return word.equals("true");
    return names.containsKey(word) ? names.get(word) : Integer.valueOf(word);
  }

  private Object[] arguments(String words) {
    if (words.isBlank()) return new Object[0];
    String[] each = words.split(", *");
    Object[] arguments = new Object[each.length];
    for (int i = 0; i < each.length; i++) arguments[i] = argument(each[i]);
    return arguments;
  }

  private void line(String line) throws ReflectiveOperationException {
    Matcher call = CALL.matcher(line);
    if (NEW_OBJECT.matcher(line).matches()) {
      x = new ContractFrames();
    } else if (x != null && call.matches()) {
      int got = (Integer) method(call.group(2)).invoke(x, arguments(call.group(3)));
      Due.is(line, got, answer(call.group(4)));
      if (call.group(1) != null) names.put(call.group(1), got);
      calls++;
    } else {
      Due.same("a line of an example", line, "a call with its answer");
    }
  }

  private static void examples(String readme) throws ReflectiveOperationException {
    Matcher example = EXAMPLE.matcher(readme);
    while (example.find()) {
      ReadmeTest test = new ReadmeTest();
      for (String line : example.group(1).split("\n")) test.line(line);
    }
    Due.is("README.md has examples", calls > 0 ? 1 : 0, 1);
  }

  private static void table(String readme) {
    for (Method m : ContractFrames.class.getDeclaredMethods())
      if (Modifier.isPublic(m.getModifiers()))
        Due.is("README.md tells of " + m.getName(), readme.contains("| `" + m.getName() + "(") ? 1 : 0, 1);
  }

  public static void main(String[] args) throws IOException, ReflectiveOperationException {
    String readme = Files.readString(Path.of("README.md"));
    examples(readme);
    table(readme);
    Due.end();
  }
}
