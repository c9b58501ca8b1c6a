import java.io.IOException;
import java.lang.reflect.Method;
import java.nio.file.Files;
import java.nio.file.Path;
import java.util.HashMap;
import java.util.Map;
import java.util.Set;
import java.util.TreeSet;
import java.util.regex.Matcher;
import java.util.regex.Pattern;

/** The example of README.md: each of its calls answers what stands behind it, and none of the face is left out. */
public final class LineMapReadme {
  private static final Path PAGE = Path.of("README.md");
  private static final String FIRST = "LineMap map = new LineMap();";
  private static final Pattern BLOCK = Pattern.compile("```java\n(.*?)```", Pattern.DOTALL);
  private static final Pattern ROW =
    Pattern.compile("(?:int (\\w+) = )?map\\.(\\w+)\\(([^)]*)\\);\\s*// (-?\\d+)(?::.*)?");
  private static int wrong = 0;

  private static void check(boolean holds, String what) {
    if (!holds) {
      wrong++;
      System.out.println("not as due: " + what);
    }
  }

  public static void main(String[] args) throws IOException, ReflectiveOperationException {
    Set<String> called = new TreeSet<>();
    Matcher block = BLOCK.matcher(Files.readString(PAGE));
    while (block.find()) run(block.group(1), called);
    for (Method m : methods()) check(called.contains(m.getName()), "README.md shows no call of " + m.getName());
    System.out.println(wrong == 0 ? "the example is as it says" : wrong + " things are not as due");
    if (wrong != 0) System.exit(1);
  }

  private static Set<Method> methods() {
    Set<Method> found = new TreeSet<>((a, b) -> a.getName().compareTo(b.getName()));
    for (Method m : LineMap.class.getMethods()) if (m.getDeclaringClass() == LineMap.class) found.add(m);
    return found;
  }

  private static void run(String code, Set<String> called) throws ReflectiveOperationException {
    LineMap map = new LineMap();
    Map<String, Integer> named = new HashMap<>();
    String[] rows = code.split("\n");
    check(rows[0].equals(FIRST), "an example begins with a new object");
    for (int i = 1; i < rows.length; i++) {
      if (rows[i].isBlank()) continue;
      Matcher row = ROW.matcher(rows[i]);
      check(row.matches(), "a row that is no call with its answer: " + rows[i]);
      if (!row.matches()) continue;
      int got = call(map, row.group(2), row.group(3), named);
      if (row.group(1) != null) named.put(row.group(1), got);
      called.add(row.group(2));
      check(got == Integer.parseInt(row.group(4)), rows[i] + " answered " + got);
    }
  }

  private static int call(LineMap map, String name, String list, Map<String, Integer> named)
      throws ReflectiveOperationException {
    String[] words = list.isEmpty() ? new String[0] : list.split(", ");
    for (Method m : methods()) {
      if (!m.getName().equals(name) || m.getParameterCount() != words.length) continue;
      Object[] values = new Object[words.length];
      for (int i = 0; i < words.length; i++)
        values[i] = m.getParameterTypes()[i] == boolean.class ? (Object) Boolean.valueOf(words[i]) : number(words[i], named);
      return (int) m.invoke(map, values);
    }
    check(false, "there is no call " + name + "(" + list + ")");
    return Integer.MIN_VALUE;
  }

  private static Integer number(String word, Map<String, Integer> named) {
    return named.containsKey(word) ? named.get(word) : Integer.valueOf(word);
  }
}
