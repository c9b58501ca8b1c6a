import java.io.IOException;
import java.lang.reflect.Constructor;
import java.lang.reflect.Field;
import java.lang.reflect.InvocationTargetException;
import java.lang.reflect.Method;
import java.lang.reflect.Modifier;
import java.nio.file.Files;
import java.nio.file.Path;
import java.util.Arrays;
import java.util.List;
import java.util.Random;
import java.util.Set;
import java.util.TreeSet;
import java.util.regex.Matcher;
import java.util.regex.Pattern;

/** The rules of LANGUAGE.md that a program can look at: the face, the words, the sizes; no throwing. */
public final class LineMapRules {
  private static final Path SOURCE = Path.of("src/main/java/LineMap.java");
  private static final List<String> FACE = List.of(
    "int station(int, int)", "int line()", "int lead(int, int)", "int of(int, int)", "int edge(int, int)",
    "int round(int, int)", "int grid(int, int)", "int span(int)", "int terms(int, int, int)",
    "int place(int, int, int)", "int point(int)", "int hold(int, boolean)", "int why(int)", "int cost(int)",
    "int best()", "int better()", "int name(int, int)", "int put()", "int named(int, int)", "int image(int)",
    "int back(int)", "int count(int)", "int status()");
  private static int wrong = 0;

  private static void check(boolean holds, String what) {
    if (!holds) {
      wrong++;
      System.out.println("not as due: " + what);
    }
  }

  public static void main(String[] args) throws IOException, ReflectiveOperationException {
    face();
    insides(LineMap.class);
    String code = withoutComments(Files.readString(SOURCE));
    words(code);
    sizes(code);
    neverThrows();
    System.out.println(wrong == 0 ? "the rules are kept" : wrong + " things are not as due");
    if (wrong != 0) System.exit(1);
  }

  private static void face() throws ReflectiveOperationException {
    Class<?> c = LineMap.class;
    check(Modifier.isPublic(c.getModifiers()) && Modifier.isFinal(c.getModifiers()), "public and final");
    Set<String> seen = new TreeSet<>();
    for (Method m : c.getDeclaredMethods()) {
      if (m.isSynthetic() || Modifier.isPrivate(m.getModifiers())) continue;
      check(Modifier.isPublic(m.getModifiers()) && !Modifier.isStatic(m.getModifiers()), "a face method: " + m);
      String types = Arrays.toString(Arrays.stream(m.getParameterTypes()).map(Class::getName).toArray());
      seen.add(m.getReturnType() + " " + m.getName() + "(" + types.substring(1, types.length() - 1) + ")");
    }
    check(seen.equals(new TreeSet<>(FACE)), "the methods of the face, not " + seen);
    for (Field f : c.getDeclaredFields())
      check(Modifier.isPrivate(f.getModifiers()) || f.getName().equals("NONE"), "a field that is seen: " + f);
    Field none = c.getField("NONE");
    int wanted = Modifier.PUBLIC | Modifier.STATIC | Modifier.FINAL;
    check(none.getModifiers() == wanted && none.getType() == int.class && none.getInt(null) == -1, "NONE");
    Constructor<?>[] made = c.getDeclaredConstructors();
    check(made.length == 1 && Modifier.isPublic(made[0].getModifiers()) && made[0].getParameterCount() == 0, "LineMap()");
  }

  private static void insides(Class<?> c) {
    Set<String> names = new TreeSet<>();
    for (String m : FACE) names.add(m.replaceAll("int (\\w+)\\(.*", "$1"));
    Class<?>[] inside = c.getDeclaredClasses();
    check(inside.length <= 11, "at most some twelve classes");
    for (Class<?> i : inside) {
      check(Modifier.isStatic(i.getModifiers()), i + " is static");
      check(!Modifier.isPublic(i.getModifiers()) && !Modifier.isProtected(i.getModifiers()), i + " is not seen");
      int fields = 0;
      for (Field f : i.getDeclaredFields()) if (!Modifier.isStatic(f.getModifiers())) fields++;
      check(fields <= 20, i + " has at most some twenty fields");
    }
    for (Class<?> any : inside)
      for (Method m : any.getDeclaredMethods()) check(!names.contains(m.getName()), m + " bears the name of a public one");
    for (Method m : c.getDeclaredMethods())
      if (Modifier.isPrivate(m.getModifiers())) check(!names.contains(m.getName()), m + " bears the name of a public one");
  }

  private static String withoutComments(String text) {
    return text.replaceAll("(?s)/\\*.*?\\*/", "").replaceAll("//[^\n]*", "");
  }

  private static void words(String code) {
    String[] banned = {
      "throw", "throws", "try", "catch", "finally", "synchronized", "assert", "protected", "package", "native",
      "volatile", "transient", "double", "float", "System", "Object", "Thread", "Random", "hashCode", "toString",
      "var", "yield", "Exact", "strictfp", "goto",
    };
    for (String w : banned) check(!Pattern.compile("\\b" + w + "\\b").matcher(code).find(), "the word " + w);
    check(!code.contains("->") && !code.contains("::"), "no lambda, no method reference");
    Matcher imports = Pattern.compile("import ([\\w.*]+);").matcher(code);
    while (imports.find()) check(imports.group(1).equals("java.util.Arrays"), "import " + imports.group(1));
    Matcher calls = Pattern.compile("\\b(Math|Integer|Long|Arrays)\\.(\\w+)").matcher(code);
    Set<String> known = Set.of("Math.abs", "Math.max", "Math.min", "Integer.MAX_VALUE", "Arrays.fill");
    while (calls.find()) check(known.contains(calls.group()), "the library's " + calls.group());
    for (char c : code.toCharArray()) check(c < 128, "a sign beyond 127");
    Matcher statics = Pattern.compile("(?m)^.*\\bstatic\\b[^(]*[;=].*$").matcher(code);
    while (statics.find()) check(statics.group().contains(" final "), "a static field that is not final: " + statics.group());
  }

  private static void sizes(String code) {
    String[] lines = code.split("\n");
    Pattern head = Pattern.compile("^( {4}| {8})(?:\\w[\\w\\[\\]<> ]*)\\(([^)]*)\\) \\{$");
    for (int i = 0; i < lines.length; i++) {
      Matcher m = head.matcher(lines[i]);
      if (!m.matches()) continue;
      check(m.group(2).split(",").length <= 7, "at most seven parameters: " + lines[i].trim());
      int end = i;
      while (end < lines.length && !lines[end].equals(m.group(1) + "}")) end++;
      check(end - i < 60, "a method of " + (end - i + 1) + " lines: " + lines[i].trim());
    }
  }

  /** Any argument in any state: answers, and answers alike a second time. */
  private static void neverThrows() throws ReflectiveOperationException {
    Method[] all = Arrays.stream(LineMap.class.getDeclaredMethods())
      .filter(m -> Modifier.isPublic(m.getModifiers()))
      .sorted((a, b) -> a.getName().compareTo(b.getName())).toArray(Method[]::new);
    int[] odd = {Integer.MIN_VALUE, Integer.MAX_VALUE, -7, -2, -1, 0, 0, 1, 1, 2, 2, 3, 3, 4, 5, 6, 7, 8, 9, 10, 11, 12, 13, 99, 1000, 1001};
    for (int run = 0; run < 120; run++) {
      Random lot = new Random(run * 0x9E3779B97F4A7C15L);
      LineMap one = new LineMap();
      LineMap other = new LineMap();
      for (int n = 0; n < 512; n++) {
        Method m = all[lot.nextInt(all.length)];
        Object[] with = new Object[m.getParameterCount()];
        for (int i = 0; i < with.length; i++)
          with[i] = m.getParameterTypes()[i] == boolean.class ? (Object) lot.nextBoolean() : (Object) odd[lot.nextInt(odd.length)];
        try {
          check(m.invoke(one, with).equals(m.invoke(other, with)), m.getName() + Arrays.toString(with) + " answers alike");
        } catch (InvocationTargetException e) {
          check(false, m.getName() + Arrays.toString(with) + " in run " + run + " throws " + e.getCause());
        }
      }
    }
  }
}
