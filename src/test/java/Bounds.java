import java.util.Map;
import java.util.function.Consumer;
import java.util.function.ToIntFunction;

/** What is due of calls at both ends of what may be, and of those that are REFUSED. */
final class Bounds {
  /** A call with the number that is tried. */
  interface Call {
    int on(HeadFits x, int number);
  }

  private static final int[] REASONS = {-1, -2, -3, -5, -6};

  private Bounds() {}

  /**
   * The last numbers that may be are granted, the first ones beyond them are REFUSED, and so are
   * those that are farthest from them.
   */
  static void refusesBeyond(
      String call, Consumer<HeadFits> before, Call number, int least, int most, int why) {
    for (int n : new int[] {least, most}) {
      HeadFits x = new HeadFits();
      before.accept(x);
      int[] refusals = refusals(x);
      number.on(x, n);
      Check.due(call + " with " + n + ": status", x.status(), 0);
      sameRefusals(call + " with " + n, x, refusals);
    }
    for (int n : beyond(least, most)) {
      refused(call + " with " + n, before, x -> number.on(x, n), why);
    }
  }

  /** The same of questions, which are not REFUSED but answer NONE. */
  static void noneBeyond(
      String call, Consumer<HeadFits> before, Call number, int least, int most) {
    for (int n : new int[] {least, most}) {
      HeadFits x = new HeadFits();
      before.accept(x);
      Check.isSo(call + " with " + n + " is told", number.on(x, n) >= 0);
    }
    for (int n : beyond(least, most)) none(call + " with " + n, before, x -> number.on(x, n));
  }

  private static int[] beyond(int least, int most) {
    return new int[] {Integer.MIN_VALUE, least - 1, most + 1, Integer.MAX_VALUE};
  }

  /** It is REFUSED, and all is as it was. */
  static void refused(
      String call, Consumer<HeadFits> before, ToIntFunction<HeadFits> asked, int why) {
    refused(call, before, asked, why, Desks::untouched);
  }

  /** It is REFUSED, and does no more than what is told to be done all the same. */
  static void refused(String call, Consumer<HeadFits> before, ToIntFunction<HeadFits> asked,
      int why, Consumer<HeadFits> allTheSame, String... but) {
    for (boolean apart : new boolean[] {false, true}) {
      HeadFits x = new HeadFits();
      before.accept(x);
      int[] refusals = refusals(x);
      Check.due(call, asked.applyAsInt(x), why);
      Check.due(call + ": status", x.status(), why);
      for (int i = 0; i < 5; i++) if (REASONS[i] == why) refusals[i]++;
      sameRefusals(call, x, refusals);
      HeadFits y = new HeadFits();
      before.accept(y);
      allTheSame.accept(y);
      same(call, told(x, apart), told(y, apart), but);
    }
  }

  /** It answers NONE, is no refusal, and all is as it was. */
  static void none(String call, Consumer<HeadFits> before, ToIntFunction<HeadFits> asked) {
    for (boolean apart : new boolean[] {false, true}) {
      HeadFits x = new HeadFits();
      before.accept(x);
      int status = x.status();
      int[] refusals = refusals(x);
      Check.due(call, asked.applyAsInt(x), HeadFits.NONE);
      Check.due(call + ": status", x.status(), status);
      sameRefusals(call, x, refusals);
      HeadFits y = new HeadFits();
      before.accept(y);
      same(call, told(x, apart), told(y, apart));
    }
  }

  private static Map<String, Integer> told(HeadFits x, boolean apart) {
    return apart ? Snapshot.takenApart(x) : Snapshot.asked(x);
  }

  static int[] refusals(HeadFits x) {
    int[] many = new int[5];
    for (int i = 0; i < 5; i++) many[i] = x.count(8 + i);
    return many;
  }

  private static void sameRefusals(String call, HeadFits x, int[] many) {
    for (int i = 0; i < 5; i++) {
      Check.due(call + ": refused by " + REASONS[i], x.count(8 + i), many[i]);
    }
  }

  /** Two objects tell the same, but for what is named. */
  static void same(
      String call, Map<String, Integer> got, Map<String, Integer> want, String... but) {
    for (String name : but) {
      got.remove(name);
      want.remove(name);
    }
    for (String name : want.keySet()) {
      Check.due(call + ": behind it " + name, got.getOrDefault(name, -999), want.get(name));
    }
    Check.due(call + ": how much is told behind it", got.size(), want.size());
  }
}
