import java.lang.reflect.InvocationTargetException;
import java.lang.reflect.Method;
import java.util.Set;
import java.util.TreeMap;
import java.util.TreeSet;

/**
 * Runs a test for each sentence of the document that names a boundary case. A test is a method
 * whose name begins with its promise, such as promise02LettersAreFrom0To26.
 */
public final class BoundariesTest {
  private static final int PROMISES = 43;
  private static final Class<?>[] TESTS = {
    ColumnBounds.class, WordBounds.class, TextBounds.class, ReckoningBounds.class,
    SettingsBounds.class, HeadBounds.class, UndoBounds.class, RowBounds.class, PaperBounds.class,
    KeepingBounds.class
  };

  public static void main(String[] args) throws IllegalAccessException {
    TreeMap<String, Method> tests = new TreeMap<>();
    for (Class<?> c : TESTS) {
      for (Method m : c.getDeclaredMethods()) {
        if (!m.getName().matches("promise[0-9][0-9].+")) continue;
        Check.isSo("one test of that name: " + m.getName(), tests.put(m.getName(), m) == null);
      }
    }
    for (Method test : tests.values()) run(test);
    Check.begin("BoundariesTest");
    everyPromiseHasOne(tests.keySet());
    Check.close("BoundariesTest, " + tests.size() + " tests");
  }

  private static void run(Method test) throws IllegalAccessException {
    Check.begin(test.getName());
    test.setAccessible(true);
    try {
      test.invoke(null);
    } catch (InvocationTargetException e) {
      Check.isSo("it threw " + e.getCause(), false);
    }
  }

  private static void everyPromiseHasOne(Set<String> names) {
    Set<String> numbers = new TreeSet<>();
    for (String name : names) numbers.add(name.substring(7, 9));
    for (int i = 1; i <= PROMISES; i++) {
      Check.isSo("a test of promise " + i, numbers.contains(String.format("%02d", i)));
    }
    Check.due("promises that have tests", numbers.size(), PROMISES);
  }
}
