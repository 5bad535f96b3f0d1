import java.io.IOException;
import java.lang.reflect.Constructor;
import java.lang.reflect.Field;
import java.lang.reflect.Method;
import java.lang.reflect.Modifier;
import java.nio.file.Files;
import java.nio.file.Path;
import java.util.ArrayList;
import java.util.List;
import java.util.Set;
import java.util.TreeMap;
import java.util.TreeSet;
import java.util.regex.Matcher;
import java.util.regex.Pattern;

/** The public face, and what a look at the source can tell of ../shared/LANGUAGE.md. */
public final class LanguageRulesTest {
  private static final String FACE =
      "breadth2 column2 size1 worth2 terms2 feed5 end1 word3 at2 law0 settings0 fault0 stopped0 "
          + "force1 say1 hush0 beside2 set1 turn0 clear0 head2 line2 cost0 undo0 fit1 over0 narrow0 "
          + "largest0 truest1 says2 seen2 forget0 changed1 matter3 cancel0 edition1 readers2 drawn1 "
          + "image1 back1 count1 status0";

  public static void main(String[] args) throws IOException {
    face();
    classesInside();
    source(Files.readString(Path.of(args.length > 0 ? args[0] : "src/main/java/HeadFits.java")));
    Check.close("LanguageRulesTest");
  }

  private static void face() {
    Class<?> c = HeadFits.class;
    Check.isSo("public and final", Modifier.isPublic(c.getModifiers()) && Modifier.isFinal(c.getModifiers()));
    Set<String> found = new TreeSet<>();
    Set<String> names = new TreeSet<>();
    for (Method m : c.getDeclaredMethods()) {
      if (Modifier.isPrivate(m.getModifiers())) continue;
      Check.isSo(m + " is public", Modifier.isPublic(m.getModifiers()));
      Check.isSo(m + " is no static one", !Modifier.isStatic(m.getModifiers()));
      Check.isSo(m + " answers an int", m.getReturnType() == int.class);
      for (Class<?> p : m.getParameterTypes()) Check.isSo(m + " takes ints", p == int.class);
      found.add(m.getName() + m.getParameterCount());
      names.add(m.getName());
    }
    Check.isSo("the face is " + found, found.equals(new TreeSet<>(Set.of(FACE.split(" ")))));
    for (Method m : c.getDeclaredMethods()) ownName(m, names);
    for (Class<?> inside : c.getDeclaredClasses()) {
      for (Method m : inside.getDeclaredMethods()) {
        Check.isSo(m + " bears a name of the face", !names.contains(m.getName()));
      }
    }
    for (Field f : c.getDeclaredFields()) {
      boolean open = f.getName().equals("NONE");
      Check.isSo(f + " is private", Modifier.isPrivate(f.getModifiers()) != open);
    }
    Constructor<?>[] made = c.getDeclaredConstructors();
    Check.isSo("one constructor", made.length == 1 && made[0].getParameterCount() == 0);
  }

  private static void ownName(Method m, Set<String> names) {
    if (!Modifier.isPrivate(m.getModifiers())) return;
    Check.isSo(m + " bears a name of the face", !names.contains(m.getName()));
  }

  private static void classesInside() {
    Class<?>[] inside = HeadFits.class.getDeclaredClasses();
    Check.isSo("some twelve classes: " + inside.length, inside.length <= 12);
    fields(HeadFits.class);
    for (Class<?> c : inside) {
      Check.isSo(c + " is static", Modifier.isStatic(c.getModifiers()));
      Check.isSo(c + " has no class inside", c.getDeclaredClasses().length == 0);
      for (Method m : c.getDeclaredMethods()) {
        Check.isSo(m + " takes seven at most", m.getParameterCount() <= 7);
      }
      fields(c);
    }
  }

  private static void fields(Class<?> c) {
    int many = 0;
    for (Field f : c.getDeclaredFields()) {
      if (!Modifier.isStatic(f.getModifiers())) many++;
      else Check.isSo(f + " is final", Modifier.isFinal(f.getModifiers()));
    }
    Check.isSo(c + " has some twenty fields: " + many, many <= 22);
  }

  private static void source(String all) {
    for (int i = 0; i < all.length(); i++) {
      Check.isSo("a sign above 126 at " + i, all.charAt(i) <= 126);
    }
    String code = all.replaceAll("(?s)/\\*.*?\\*/", "").replaceAll("//[^\n]*", "")
        .replaceAll("\"[^\"\n]*\"", "\"\"").replaceAll("'.'", "' '");
    String[] words = {"throw", "throws", "try", "catch", "finally", "synchronized", "assert",
      "package", "import", "Thread", "Random", "Object", "hashCode", "equals", "instanceof",
      "double", "float", "var", "volatile", "native", "transient"};
    for (String word : words) {
      Check.isSo("no " + word, !Pattern.compile("\\b" + word + "\\b").matcher(code).find());
    }
    for (String sign : new String[] {"->", "::", "@", "while (true)", "for (;;)"}) {
      Check.isSo("no " + sign, !code.contains(sign));
    }
    Matcher library = Pattern.compile("\\b(System|Math|Integer|Long|Arrays)\\.(\\w+)").matcher(code);
    Set<String> listed = Set.of("System.arraycopy", "Math.min", "Math.max", "Math.abs",
        "Integer.bitCount", "Long.bitCount");
    while (library.find()) Check.isSo("listed: " + library.group(), listed.contains(library.group()));
    methodsAreShort(all);
    callsGoEightDeep(code);
  }

  /** Each method's name with the names of methods that its lines call. */
  private static TreeMap<String, Set<String>> calls(String code) {
    TreeMap<String, Set<String>> called = new TreeMap<>();
    Pattern head = Pattern.compile("^ {2,4}(?:\\w+ )*\\w+(?:\\[\\])? (\\w+)\\(.*\\) \\{.*$");
    Pattern call = Pattern.compile("\\b([a-z]\\w*)\\(");
    Set<String> now = new TreeSet<>();
    for (String line : code.split("\n")) {
      Matcher begins = head.matcher(line);
      if (begins.matches() && !line.contains(" new ")) {
        now = called.computeIfAbsent(begins.group(1), name -> new TreeSet<>());
      } else {
        Matcher m = call.matcher(line);
        while (m.find()) now.add(m.group(1));
      }
    }
    for (Set<String> names : called.values()) names.retainAll(called.keySet());
    return called;
  }

  // Methods of one name are taken for one, and those that call one another count once, so that
  // this may tell more than there is, never less.
  private static void callsGoEightDeep(String code) {
    TreeMap<String, Set<String>> called = calls(code);
    TreeMap<String, Set<String>> reached = new TreeMap<>();
    for (String name : called.keySet()) {
      List<String> open = new ArrayList<>(called.get(name));
      Set<String> found = new TreeSet<>();
      while (!open.isEmpty()) {
        String next = open.remove(open.size() - 1);
        if (found.add(next)) open.addAll(called.get(next));
      }
      reached.put(name, found);
    }
    Check.isSo("calls were found", reached.get("settings").contains("isSpelt"));
    TreeMap<String, Integer> depths = new TreeMap<>();
    for (String name : called.keySet()) {
      int depth = depth(name, called, reached, depths);
      Check.isSo("calls of " + name + " go " + depth + " deep, eight at most", depth <= 8);
    }
  }

  private static int depth(String name, TreeMap<String, Set<String>> called,
      TreeMap<String, Set<String>> reached, TreeMap<String, Integer> depths) {
    if (depths.containsKey(name)) return depths.get(name);
    Set<String> group = new TreeSet<>(Set.of(name));
    for (String other : reached.get(name)) {
      if (reached.get(other).contains(name)) group.add(other);
    }
    int deepest = 0;
    for (String member : group) {
      for (String next : called.get(member)) {
        if (!group.contains(next)) deepest = Math.max(deepest, depth(next, called, reached, depths));
      }
    }
    depths.put(name, deepest + 1);
    return deepest + 1;
  }

  private static void methodsAreShort(String all) {
    int from = -1;
    int number = 0;
    for (String line : all.split("\n")) {
      number++;
      Check.isSo("line " + number + " is no longer than 100", line.length() <= 100);
      if (line.matches("^(  |    )\\S.*\\) \\{$")) from = number;
      if (!line.matches("^(  |    )\\}$") || from < 0) continue;
      Check.isSo("the method at line " + from + " is short", number - from <= 60);
      from = -1;
    }
  }
}
