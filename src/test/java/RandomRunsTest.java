import java.util.Random;

/**
 * Random runs of 512 calls, each answer compared with the one of PlainHeads. What a run goes by is
 * asked of PlainHeads, so that all calls of HeadFits are counted.
 */
public final class RandomRunsTest {
  private static final int RUNS = 600;
  private static final int CALLS = 512;

  private final Random random;
  private final HeadFits x = new HeadFits();
  private final PlainHeads y = new PlainHeads();
  private final StringBuilder told = new StringBuilder();
  private int calls = 0;
  private boolean wrong = false;
  // Long SAYINGS of few SENSES, so that there are many ROWS.
  private final boolean heavy;
  // Narrow COLUMNS and short WORDS, so that ROWS have several LINES, and little but ROWS is asked.
  private final boolean narrow;

  private RandomRunsTest(long seed) {
    random = new Random(seed);
    heavy = seed % 4 == 0;
    narrow = seed % 4 == 1;
  }

  /** A second argument tells how many runs, a third prints what they told. */
  public static void main(String[] args) {
    int runs = args.length > 1 ? Integer.parseInt(args[1]) : RUNS;
    for (int run = 0; run < runs; run++) {
      RandomRunsTest test = new RandomRunsTest(run);
      test.prepare();
      while (test.calls < CALLS && !test.wrong) test.step();
      if (args.length > 2) System.out.println(test.told);
      if (test.wrong) Check.isSo("run " + run + ":\n" + test.told, false);
    }
    Check.close("RandomRunsTest");
  }

  private void same(String call, int got, int want) {
    calls++;
    // What an object answers behind its 512th call is free.
    if (calls > CALLS) return;
    told.append(call).append(" = ").append(got).append('\n');
    if (got == want) return;
    if (!wrong) told.append("due is ").append(want).append('\n');
    wrong = true;
  }

  private int r(int n) {
    return random.nextInt(n);
  }

  /** Most often within, sometimes just outside. */
  private int near(int least, int most) {
    if (r(25) == 0) return r(2) == 0 ? least - 1 - r(2) : most + 1 + r(2);
    return least + r(most - least + 1);
  }

  private void write(String text) {
    for (int from = 0; from < text.length(); from += 20) {
      int[] n = new int[5];
      for (int i = 0; i < 20; i++) {
        int at = from + i;
        n[i / 4] = n[i / 4] << 8 | (at < text.length() ? text.charAt(at) : r(256));
      }
      same("feed", x.feed(n[0], n[1], n[2], n[3], n[4]), y.feed(n[0], n[1], n[2], n[3], n[4]));
    }
    int n = text.length();
    told.append('"').append(text).append("\" ");
    same("end " + n, x.end(n), y.end(n));
  }

  private void prepare() {
    if (narrow) {
      narrowColumn();
      for (int i = 0; i < 6 + r(7); i++) word(i % 4);
      for (int i = 0; i < 3 + r(4); i++) sayOne(r(4));
      return;
    }
    if (r(3) == 0) column();
    // Early images, so that places are filled anew with other things behind them.
    if (r(2) == 0) same("image 0", x.image(0), y.image(0));
    int words = 4 + r(10);
    for (int i = 0; i < words; i++) word(r(heavy ? 3 : 5));
    for (int i = r(heavy ? 7 : 5); i > 0; i--) say();
    if (r(2) == 0) law();
    if (r(2) == 0) force(0);
  }

  private void narrowColumn() {
    int a = 25 + r(60);
    int b = 2 + r(3);
    same("column " + a + " " + b, x.column(a, b), y.column(a, b));
  }

  private void narrowStep() {
    switch (r(9)) {
      case 0: narrowColumn(); break;
      case 1: if (r(3) == 0) law(); else force(r(Math.max(1, y.count(5)))); break;
      case 2: breadth(); break;
      case 3: size(); break;
      case 4: if (y.count(1) > 3) same("hush", x.hush(), y.hush()); else sayOne(r(4)); break;
      case 5: sayOne(r(4)); break;
      case 6: worthsAndTerms(); break;
      case 7: if (y.count(5) < 6) write("costs [white+line*many]%7+echo*3;loses word%2"); costLaw(); break;
      default: beside(); break;
    }
    if (r(3) == 0) rows();
  }

  private void costLaw() {
    same("law", x.law(), y.law());
    force(Math.max(0, y.count(5) - 1));
  }

  private void step() {
    if (narrow) {
      narrowStep();
      return;
    }
    switch (r(31)) {
      case 0: breadth(); break;
      case 1: column(); break;
      case 2: size(); break;
      case 3: word(near(0, 7)); break;
      case 4: law(); break;
      case 5: force(near(-1, 5)); break;
      case 6: case 7: settings(); break;
      case 8: say(); break;
      case 9: if (r(6) == 0) same("hush", x.hush(), y.hush()); else questions(); break;
      case 10: beside(); break;
      case 11: case 12: case 13: case 14: set(); break;
      case 15: case 16: same("turn", x.turn(), y.turn()); break;
      case 17: if (r(3) == 0) same("clear", x.clear(), y.clear()); break;
      case 18: case 19: same("undo", x.undo(), y.undo()); break;
      case 20: seen(); break;
      case 21: matter(); break;
      case 22: readers(); break;
      case 23: image(); break;
      case 24: worthsAndTerms(); break;
      case 25: if (r(4) == 0) same("cancel", x.cancel(), y.cancel()); break;
      case 26: loose(); break;
      default: questions(); break;
    }
    same("status", x.status(), y.status());
  }

  private void breadth() {
    int a = near(0, 26);
    int b = near(1, 20);
    same("breadth " + a + " " + b, x.breadth(a, b), y.breadth(a, b));
  }

  private void column() {
    int a = r(3) == 0 ? near(10, 400) : 20 + r(150);
    int b = near(1, 4);
    same("column " + a + " " + b, x.column(a, b), y.column(a, b));
  }

  private void size() {
    int a = near(0, 2);
    same("size " + a, x.size(a), y.size(a));
  }

  private void word(int sense) {
    StringBuilder letters = new StringBuilder();
    int length = r(12) == 0 ? near(1, 9) : 1 + r(narrow ? 3 : 5);
    for (int i = 0; i < length; i++) letters.append((char) ('a' + r(r(3) == 0 ? 26 : 2)));
    if (r(40) == 0) letters.append(' ');
    write(letters.toString());
    int b = near(0, r(2) == 0 ? 99 : 5);
    int c = near(0, 10);
    same("word " + sense + " " + b + " " + c, x.word(sense, b, c), y.word(sense, b, c));
    if (y.count(7) > 0) same("end 0", x.end(0), y.end(0));
  }

  private void law() {
    write(new PlainTexts(random, true).text());
    same("law", x.law(), y.law());
    same("fault", x.fault(), y.fault());
    if (r(2) == 0) force(y.count(5) - 1);
  }

  private void settings() {
    write(new PlainTexts(random, false).text());
    same("settings", x.settings(), y.settings());
    same("fault", x.fault(), y.fault());
    same("stopped", x.stopped(), y.stopped());
    same("count 6", x.count(6), y.count(6));
    for (int i = 0; i < 3; i++) same("head " + i, x.head(i, 0), y.head(i, 0));
  }

  private void force(int law) {
    same("force " + law, x.force(law), y.force(law));
  }

  private void say() {
    if (!heavy && y.count(1) >= 4 && r(5) > 0) return;
    sayOne(near(0, r(4) == 0 ? 7 : heavy ? 2 : 4));
  }

  private void sayOne(int sense) {
    same("say " + sense, x.say(sense), y.say(sense));
  }

  private void beside() {
    int a = near(0, 3);
    int b = near(-1, 10);
    same("beside " + a + " " + b, x.beside(a, b), y.beside(a, b));
  }

  private void set() {
    int a = near(0, Math.max(0, y.count(0) - 1));
    same("set " + a, x.set(a), y.set(a));
  }

  private void seen() {
    if (r(3) == 0) same("forget", x.forget(), y.forget());
    int a = near(0, 3);
    int b = near(0, 999);
    if (r(3) > 0 && y.count(2) > 0) {
      a = r(3);
      b = Math.max(0, Math.min(999, y.line(a, 0) + 5 * r(3)));
    }
    same("seen " + a + " " + b, x.seen(a, b), y.seen(a, b));
    for (int i = -2; i < 4; i++) same("changed " + i, x.changed(i), y.changed(i));
  }

  private void matter() {
    int a = near(1, r(2) == 0 ? 99 : 5);
    int b = near(0, r(2) == 0 ? 999 : 20);
    int c = near(1, r(2) == 0 ? 99 : 3);
    same("matter " + a + " " + b + " " + c, x.matter(a, b, c), y.matter(a, b, c));
    for (int i = -1; i < 12; i += 1 + r(4)) same("edition " + i, x.edition(i), y.edition(i));
  }

  private void readers() {
    int a = near(0, 1000000);
    int b = near(1, 100);
    same("readers " + a + " " + b, x.readers(a, b), y.readers(a, b));
    for (int i = -1; i < 4; i++) same("drawn " + i, x.drawn(i), y.drawn(i));
  }

  private void image() {
    int a = near(0, 1);
    if (r(2) == 0) same("image " + a, x.image(a), y.image(a));
    else same("back " + a, x.back(a), y.back(a));
  }

  private void worthsAndTerms() {
    int a = near(0, 7);
    int b = near(0, r(2) == 0 ? 99 : 2);
    same("worth " + a + " " + b, x.worth(a, b), y.worth(a, b));
    int c = near(0, 1);
    int d = near(0, c == 0 ? 999 : 9);
    same("terms " + c + " " + d, x.terms(c, d), y.terms(c, d));
  }

  private void loose() {
    int a = random.nextInt();
    if (r(3) == 0) same("feed", x.feed(a, a, a, a, a), y.feed(a, a, a, a, a));
    int n = r(30) - 2;
    same("end " + n, x.end(n), y.end(n));
    if (r(2) == 0) same("word", x.word(0, 0, 0), y.word(0, 0, 0));
    same("end 0", x.end(0), y.end(0));
  }

  private void questions() {
    int a = r(17) - 1;
    int hairs = near(1, 400);
    switch (r(heavy ? 12 : 9)) {
      case 0: same("at " + a, x.at(a, 6), y.at(a, 6)); same("at " + a, x.at(a, 7), y.at(a, 7)); break;
      case 1: for (int i = -1; i < 10; i++) same("at " + a + " " + i, x.at(a, i), y.at(a, i)); break;
      case 2: for (int i = -1; i < 5; i++) for (int k = -1; k < 6; k++) {
        same("line " + i + " " + k, x.line(i, k), y.line(i, k));
      } break;
      case 3: same("cost", x.cost(), y.cost()); break;
      case 4: for (int i = -1; i < 20; i++) same("count " + i, x.count(i), y.count(i)); break;
      case 5: for (int k = -1; k < 3; k++) same("head " + a + " " + k, x.head(a, k), y.head(a, k)); break;
      case 6: for (int i = -1; i < 4; i++) same("says " + hairs + " " + i, x.says(hairs, i), y.says(hairs, i)); break;
      default: rows();
    }
  }

  private void rows() {
    if (heavy && r(3) > 0) return;
    same("over", x.over(), y.over());
    same("narrow", x.narrow(), y.narrow());
    same("largest", x.largest(), y.largest());
    int step = heavy ? 1 + r(5) : 1;
    for (int i = -1 + r(step); i < 17; i += step) {
      same("fit " + i, x.fit(i), y.fit(i));
      if (r(2) == 0) same("truest " + i, x.truest(i), y.truest(i));
    }
  }
}
