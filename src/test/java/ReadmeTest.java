import java.io.IOException;
import java.lang.reflect.Method;
import java.lang.reflect.Modifier;
import java.net.URL;
import java.net.URLClassLoader;
import java.nio.file.Files;
import java.nio.file.Path;
import java.util.ArrayList;
import java.util.Comparator;
import java.util.List;
import java.util.Set;
import java.util.TreeMap;
import java.util.TreeSet;
import java.util.regex.Matcher;
import java.util.regex.Pattern;
import java.util.stream.Stream;
import javax.tools.JavaCompiler;
import javax.tools.ToolProvider;

/**
 * What README.md shows of the use of the class compiles and answers as it says there, and its
 * tables have all calls with the grounds of a refusal that the document names.
 */
public final class ReadmeTest {
  private static final Path README = Path.of("README.md");
  private static final Path DOCUMENT = Path.of("../shared/DOC.md");
  private static final Pattern ANSWER = Pattern.compile("^(.*?;) *// -> (-?\\d+)(:.*)?$");
  private static final Pattern KEPT = Pattern.compile("^int (\\w+) = .*$");
  private static final Pattern ROW = Pattern.compile("^\\| `int (\\w+)\\((.*?)\\)` \\|.*\\| (.*?) ?\\|$");
  private static final Pattern PROMISE = Pattern.compile("^`int (\\w+)\\(.*?\\)`: (.*)$");
  private static final Pattern GROUND = Pattern.compile("(?<![\\w.])-[12356]\\b");

  private final StringBuilder helpers = new StringBuilder();
  private final StringBuilder steps = new StringBuilder();
  private final List<String> calls = new ArrayList<>();
  private final List<Integer> due = new ArrayList<>();
  private final TreeMap<String, String> rows = new TreeMap<>();

  public static void main(String[] args) throws Exception {
    ReadmeTest test = new ReadmeTest();
    List<String> lines = Files.readAllLines(README);
    test.readBlocks(lines);
    test.readTables(lines);
    test.everyCallIsShown();
    test.everyCallHasARow();
    test.answersAreAsShown();
    if (Files.exists(DOCUMENT)) {
      test.groundsAreThoseOfTheDocument(Files.readAllLines(DOCUMENT));
    } else {
      System.out.println("ReadmeTest: " + DOCUMENT + " is not there, so grounds are not compared");
    }
    Check.close("ReadmeTest");
  }

  private void readBlocks(List<String> lines) {
    List<String> block = null;
    int from = 0;
    for (int i = 0; i < lines.size(); i++) {
      String line = lines.get(i);
      if (line.equals("```java")) {
        block = new ArrayList<>();
        from = i + 1;
      } else if (line.equals("```") && block != null) {
        readBlock(block, from + 1);
        block = null;
      } else if (block != null) {
        block.add(line);
      }
    }
    Check.isSo("all blocks of README.md end", block == null);
  }

  // A block is either a method or a row of statements, a line each.
  private void readBlock(List<String> block, int number) {
    if (!block.isEmpty() && block.get(0).startsWith("static ")) {
      for (String line : block) helpers.append(line).append('\n');
      return;
    }
    for (int i = 0; i < block.size(); i++) readStatement(block.get(i), number + i);
  }

  private void readStatement(String line, int number) {
    if (line.startsWith("HeadFits x = new HeadFits();")) {
      steps.append(line).append('\n');
      return;
    }
    Matcher m = ANSWER.matcher(line);
    Check.isSo("line " + number + " of README.md tells what is answered: " + line, m.matches());
    if (!m.matches()) return;
    String statement = m.group(1);
    Matcher kept = KEPT.matcher(statement);
    if (kept.matches()) {
      steps.append(statement).append("\ngot.add(").append(kept.group(1)).append(");\n");
    } else {
      String call = statement.substring(0, statement.length() - 1);
      steps.append("got.add(").append(call).append(");\n");
    }
    calls.add("line " + number + " of README.md: " + statement);
    due.add(Integer.parseInt(m.group(2)));
  }

  private void readTables(List<String> lines) {
    for (String line : lines) {
      if (!line.startsWith("| `int ")) continue;
      Matcher m = ROW.matcher(line);
      Check.isSo("a row of three columns: " + line, m.matches());
      if (!m.matches()) continue;
      String was = rows.put(m.group(1) + "(" + m.group(2) + ")", m.group(3));
      Check.isSo("one row for " + m.group(1), was == null);
    }
  }

  private static Set<String> face() {
    Set<String> names = new TreeSet<>();
    for (Method m : HeadFits.class.getDeclaredMethods()) {
      if (Modifier.isPublic(m.getModifiers())) names.add(m.getName() + m.getParameterCount());
    }
    return names;
  }

  private void everyCallIsShown() {
    for (String call : face()) {
      String name = call.substring(0, call.length() - 1);
      Check.isSo(name + " is shown", steps.indexOf("x." + name + "(") >= 0);
    }
  }

  private void everyCallHasARow() {
    Set<String> found = new TreeSet<>();
    for (String row : rows.keySet()) {
      int bracket = row.indexOf('(');
      String taken = row.substring(bracket + 1, row.length() - 1);
      found.add(row.substring(0, bracket) + (taken.isEmpty() ? 0 : taken.split(", ").length));
    }
    Check.isSo("the tables have all calls: " + found, found.equals(face()));
  }

  private void groundsAreThoseOfTheDocument(List<String> document) {
    TreeMap<String, String> promises = new TreeMap<>();
    for (String line : document) {
      Matcher m = PROMISE.matcher(line);
      if (m.matches()) promises.put(m.group(1), m.group(2));
      String face = line.trim().replaceFirst("^public int (.*);$", "$1");
      if (!face.equals(line.trim())) Check.isSo("a row for " + face, rows.containsKey(face));
    }
    Check.due("promises of calls in the document", promises.size(), face().size());
    // What it counts is told by the grounds, too.
    promises.put("count", "NONE for others.");
    for (String row : rows.keySet()) {
      String name = row.substring(0, row.indexOf('('));
      Set<String> grounds = grounds(promises.getOrDefault(name, ""));
      Check.isSo(name + " can be REFUSED by " + grounds, grounds(rows.get(row)).equals(grounds));
      if (!grounds.isEmpty()) continue;
      boolean none = promises.getOrDefault(name, "").contains("NONE");
      Check.isSo(name + " may answer NONE: " + none, rows.get(row).contains("NONE") == none);
    }
  }

  private static Set<String> grounds(String text) {
    Set<String> found = new TreeSet<>();
    Matcher m = GROUND.matcher(text);
    while (m.find()) found.add(m.group());
    return found;
  }

  private void answersAreAsShown() throws Exception {
    Check.isSo("README.md shows calls", calls.size() > face().size());
    Path room = Files.createTempDirectory("readme");
    try {
      if (!compiles(room)) return;
      List<Integer> got = new ArrayList<>();
      URL[] where = {room.toUri().toURL()};
      try (URLClassLoader loader = new URLClassLoader(where, ReadmeTest.class.getClassLoader())) {
        loader.loadClass("ReadmeShows").getMethod("run", List.class).invoke(null, got);
      }
      for (int i = 0; i < calls.size(); i++) Check.due(calls.get(i), got.get(i), due.get(i));
    } finally {
      remove(room);
    }
  }

  private boolean compiles(Path room) throws IOException {
    Path source = room.resolve("ReadmeShows.java");
    Files.writeString(source, "public final class ReadmeShows {\n" + helpers
        + "public static void run(java.util.List<Integer> got) {\n" + steps + "}\n}\n");
    JavaCompiler compiler = ToolProvider.getSystemJavaCompiler();
    Check.isSo("there is a compiler", compiler != null);
    if (compiler == null) return false;
    int code = compiler.run(null, null, null, "-cp", System.getProperty("java.class.path"),
        "-d", room.toString(), source.toString());
    Check.due("compiling what README.md shows", code, 0);
    return code == 0;
  }

  private static void remove(Path room) throws IOException {
    try (Stream<Path> all = Files.walk(room)) {
      for (Path path : all.sorted(Comparator.reverseOrder()).toList()) Files.delete(path);
    }
  }
}
