/** Counts answers that are not as due, and writes texts on a TAPE. */
final class Check {
  private static int wrong = 0;
  private static String test = "";

  private Check() {}

  /** What is told of wrong answers from here on begins with the name of that test. */
  static void begin(String name) {
    test = name + ": ";
  }

  static void due(String call, long got, long want) {
    if (got == want) return;
    wrong++;
    if (wrong <= 50) System.out.println(test + call + " answered " + got + ", due is " + want);
  }

  static void isSo(String what, boolean so) {
    due(what, so ? 1 : 0, 1);
  }

  /** Ends the test: with exit code 1 if an answer was not as due. */
  static void close(String name) {
    System.out.println(name + (wrong == 0 ? ": all answers are as due" : ": " + wrong + " wrong"));
    if (wrong != 0) System.exit(1);
  }

  /** Puts a text of at most 400 signs on the TAPE, which must be empty. */
  static void write(HeadFits x, String text) {
    int[] number = new int[5];
    for (int from = 0; from < text.length(); from += 20) {
      for (int i = 0; i < 5; i++) {
        number[i] = 0;
        for (int k = 0; k < 4; k++) {
          int at = from + 4 * i + k;
          number[i] = number[i] << 8 | (at < text.length() ? text.charAt(at) : 0);
        }
      }
      x.feed(number[0], number[1], number[2], number[3], number[4]);
    }
    x.end(text.length());
  }

  static int word(HeadFits x, String letters, int sense, int loss, int truth) {
    write(x, letters);
    return x.word(sense, loss, truth);
  }

  static int law(HeadFits x, String text) {
    write(x, text);
    return x.law();
  }

  /** A law that is in FORCE then. */
  static void inForce(HeadFits x, String text) {
    int law = law(x, text);
    isSo("a law: " + text, law >= 0);
    x.force(law);
  }

  static int settings(HeadFits x, String text) {
    write(x, text);
    return x.settings();
  }
}
