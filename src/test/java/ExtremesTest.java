import java.lang.reflect.InvocationTargetException;
import java.lang.reflect.Method;
import java.lang.reflect.Modifier;
import java.util.Arrays;
import java.util.Comparator;
import java.util.Random;

/** No call may ever throw, whatever it is given, in whatever state. */
public final class ExtremesTest {
  private static final int[] NUMBERS = {Integer.MIN_VALUE, Integer.MIN_VALUE + 3, -1000, -17, -3, -2,
    -1, 0, 1, 2, 3, 4, 5, 8, 9, 12, 15, 16, 20, 27, 99, 400, 401, 1000000, 1 << 30,
    Integer.MAX_VALUE - 3, Integer.MAX_VALUE};

  public static void main(String[] args) throws IllegalAccessException {
    Method[] methods = Arrays.stream(HeadFits.class.getDeclaredMethods())
        .filter(m -> Modifier.isPublic(m.getModifiers()))
        .sorted(Comparator.comparing(Method::getName))
        .toArray(Method[]::new);
    for (int run = 0; run < 300; run++) {
      Random random = new Random(run);
      HeadFits x = new HeadFits();
      if (run % 2 == 0) fill(x);
      for (int call = 0; call < 450; call++) {
        Method m = methods[random.nextInt(methods.length)];
        Object[] given = new Object[m.getParameterCount()];
        for (int i = 0; i < given.length; i++) given[i] = NUMBERS[random.nextInt(NUMBERS.length)];
        call(x, m, given);
      }
    }
    Check.close("ExtremesTest");
  }

  private static void fill(HeadFits x) {
    for (int i = 0; i < 9; i++) Check.word(x, "abcdefghi".substring(i), i / 3, i, i);
    for (int i = 0; i < 6; i++) x.say(i % 3);
    Check.inForce(x, "costs white*line/[many-1] if echo=0;bars if word%4=3;loses 1000*1000*1000*loss");
    x.set(8);
  }

  private static void call(HeadFits x, Method m, Object[] given) throws IllegalAccessException {
    try {
      m.invoke(x, given);
    } catch (InvocationTargetException e) {
      Check.isSo(m.getName() + Arrays.toString(given) + " threw " + e.getCause(), false);
    }
  }
}
