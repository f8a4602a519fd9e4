import java.io.IOException;
import java.lang.reflect.Constructor;
import java.lang.reflect.Field;
import java.lang.reflect.Method;
import java.lang.reflect.Modifier;
import java.nio.file.Files;
import java.nio.file.Path;
import java.util.ArrayList;
import java.util.Arrays;
import java.util.List;
import java.util.Map;
import java.util.TreeMap;
import java.util.TreeSet;
import java.util.regex.Matcher;
import java.util.regex.Pattern;

/** The rules of LANGUAGE.md that can be told from the class's face and from words of its source. */
public final class LanguageTest {
  private static final Path SOURCE = Path.of("src/main/java/ContractFrames.java");
  private static final List<String> FACE = List.of(
      "call(int,int,int,int,int,int)", "clear()", "coins(int,int)", "contract()", "count(int)", "empty(int,int)",
      "event(int,int)", "frame(int,int)", "guard(int,int,boolean)", "step(int,int,int,int,int)", "store(int,int)", "told(int)");

  private static void holds(String what, boolean yes) {
    Due.is(what, yes ? 1 : 0, 1);
  }

  private static boolean isPrivate(int modifiers) {
    return Modifier.isPrivate(modifiers);
  }

  private static String signature(Method m) {
    List<String> types = new ArrayList<>();
    for (Class<?> type : m.getParameterTypes()) types.add(type.getName());
    return m.getName() + "(" + String.join(",", types) + ")";
  }

  private static void face() {
    Class<?> face = ContractFrames.class;
    holds("public final", Modifier.isPublic(face.getModifiers()) && Modifier.isFinal(face.getModifiers()));
    TreeSet<String> seen = new TreeSet<>();
    for (Method m : face.getDeclaredMethods())
      if (!isPrivate(m.getModifiers()) && !m.isSynthetic()) {
        seen.add(signature(m));
        holds(m.getName() + " is public and answers an int", Modifier.isPublic(m.getModifiers()) && m.getReturnType() == int.class);
      }
    holds("the methods " + seen, seen.equals(new TreeSet<>(FACE)));
    Constructor<?>[] constructors = face.getDeclaredConstructors();
    holds("one constructor", constructors.length == 1 && Modifier.isPublic(constructors[0].getModifiers())
        && constructors[0].getParameterCount() == 0);
    TreeSet<String> constants = new TreeSet<>();
    for (Field f : face.getDeclaredFields()) if (!isPrivate(f.getModifiers())) constants.add(f.getName());
    holds("the constants " + constants, constants.equals(new TreeSet<>(List.of("UNKNOWN", "OUTSIDE", "STATE", "ROOM", "NONE"))));
  }

  private static void classes() {
    Class<?>[] inside = ContractFrames.class.getDeclaredClasses();
    holds("at most twelve classes", inside.length < 12);
    List<Class<?>> all = new ArrayList<>(Arrays.asList(inside));
    all.add(ContractFrames.class);
    for (Class<?> c : all) {
      if (c != ContractFrames.class) holds(c + " is static", Modifier.isStatic(c.getModifiers()));
      int fields = 0;
      for (Field f : c.getDeclaredFields()) {
        if (!Modifier.isStatic(f.getModifiers())) fields++;
        else holds(f + " is final", Modifier.isFinal(f.getModifiers()));
      }
      holds(c + " has at most twenty fields", fields <= 20);
      for (Method m : c.getDeclaredMethods()) {
        holds(m + " has at most seven parameters", m.getParameterCount() <= 7);
        boolean ofFace = FACE.stream().anyMatch(s -> s.startsWith(m.getName() + "("));
        holds(m + " bears no name of the face", c == ContractFrames.class && !isPrivate(m.getModifiers()) || !ofFace);
      }
    }
  }

  private static String withoutComments(String text) {
    return text.replaceAll("(?s)/\\*.*?\\*/", " ").replaceAll("//[^\n]*", " ");
  }

  private static void words() throws IOException {
    String source = withoutComments(Files.readString(SOURCE));
    Matcher forbidden = Pattern.compile("\\b(throw|throws|try|catch|finally|synchronized|assert|package|native|volatile|transient"
        + "|hashCode|toString|Exact)\\b|->|::").matcher(source);
    while (forbidden.find()) holds("no " + forbidden.group(), false);
    Matcher imports = Pattern.compile("import +([^;]*);").matcher(source);
    List<String> importable = List.of("java.util.Arrays", "java.util.ArrayList", "java.util.List");
    while (imports.find()) holds("import of " + imports.group(1), importable.contains(imports.group(1)));
    Matcher library = Pattern.compile("(?<!util\\.)\\b(System|Arrays)\\.(\\w+)").matcher(source);
    List<String> callable = List.of("arraycopy", "fill", "copyOf", "copyOfRange");
    while (library.find()) holds(library.group(), callable.contains(library.group(2)));
  }

  /** The bodies of the methods by their names; methods of the same name are taken as one, which can only be stricter. */
  private static Map<String, String> bodies(String source) {
    Map<String, String> bodies = new TreeMap<>();
    Matcher method = Pattern.compile("(?ms)^( +)(?:(?:public|private|static|final) )*\\w+(?:\\[\\])? (\\w+)\\([^)]*\\) \\{\n(.*?)^\\1\\}")
        .matcher(source);
    while (method.find()) {
      if (List.of("if", "for", "while", "switch").contains(method.group(2))) continue;
      holds(method.group(2) + " has at most sixty lines", method.group(3).split("\n").length <= 60);
      bodies.merge(method.group(2), method.group(3), String::concat);
    }
    return bodies;
  }

  /** How many methods the longest chain of calls from this one has in which none comes twice. */
  private static int longestChain(String name, Map<String, String> bodies, List<String> open) {
    if (open.contains(name)) return 0;
    open.add(name);
    int longest = 0;
    Matcher call = Pattern.compile("\\b(\\w+)\\(").matcher(bodies.get(name));
    while (call.find())
      if (bodies.containsKey(call.group(1))) longest = Math.max(longest, longestChain(call.group(1), bodies, open));
    open.remove(name);
    return 1 + longest;
  }

  private static void methods() throws IOException {
    String source = Files.readString(SOURCE);
    holds("texts of characters 0 to 255", source.chars().allMatch(c -> c <= 255));
    Map<String, String> bodies = bodies(withoutComments(source));
    for (String signature : FACE) {
      String name = signature.substring(0, signature.indexOf('('));
      holds(name + " has a body", bodies.containsKey(name));
      if (bodies.containsKey(name)) holds("calls go at most eight deep from " + name, longestChain(name, bodies, new ArrayList<>()) <= 8);
    }
  }

  public static void main(String[] args) throws IOException {
    face();
    classes();
    words();
    methods();
    Due.end();
  }
}
