/** Objects in states that many tests begin with. */
final class Desks {
  private Desks() {}

  static void untouched(HeadFits x) {}

  /** Something of everything, so that whatever a call touches shows; the HEAD has two LINES. */
  static void busy(HeadFits x) {
    x.worth(3, 7);
    x.worth(0, 5);
    x.terms(0, 5);
    x.terms(1, 4);
    x.breadth(1, 12);
    x.breadth(25, 3);
    x.column(90, 3);
    x.size(1);
    Check.word(x, "ab", 0, 3, 7);
    Check.word(x, "acd", 0, 5, 9);
    Check.word(x, "b", 1, 0, 10);
    Check.word(x, "abd", 1, 8, 4);
    Check.law(x, "loses loss+day; costs white/2+echo*9; bars if word=9");
    Check.law(x, "bars if loss>90");
    x.force(0);
    x.say(0);
    x.say(1);
    x.beside(0, 1);
    x.beside(3, 2);
    x.matter(5, 20, 3);
    x.matter(4, 6, 9);
    x.set(3);
    x.seen(0, 45);
    x.image(0);
    x.clear();
    x.set(0);
    x.turn();
    x.set(2);
    x.set(0);
    x.seen(1, 58);
    x.readers(7, 50);
    leaveTraces(x);
  }

  // A FAULT, a CLAUSE that stopped and a TAPE whose FAULT tells whether its bytes are in order.
  private static void leaveTraces(HeadFits x) {
    Check.settings(x, "turn;turn");
    Check.law(x, "bars 1");
    Check.write(x, "turn if 1=2; size 0 if 1=2?");
  }

  /** All room is taken: there can be no more WORDS, LAWS, SENSES, SEEN, MATTERS. */
  static void full(HeadFits x) {
    for (int i = 0; i < 16; i++) Check.word(x, i < 8 ? "ab" : "c", i / 2, i, i % 11);
    x.column(400, 4);
    x.breadth(26, 1);
    for (int i = 0; i < 6; i++) {
      Check.law(x, "loses " + i);
      x.say(i);
    }
    for (int i = 0; i < 4; i++) x.seen(i, 50 + i);
    for (int i = 0; i < 8; i++) x.matter(5 + i, 5 * i + 9, 1 + i);
    x.force(5);
    for (int i = 0; i < 12; i++) x.set(i);
    leaveTraces(x);
  }

  /** All room is taken once more, by other things in the same places. */
  static void fullOfOthers(HeadFits x) {
    for (int i = 0; i < 16; i++) Check.word(x, "zyxwvuts" + (char) ('a' + i), 7 - i / 2, 50, 5);
    x.column(397, 3);
    x.breadth(26, 2);
    x.breadth(25, 1);
    for (int i = 0; i < 6; i++) {
      Check.law(x, "loses " + (i + 10));
      x.say(7 - i);
    }
    for (int i = 0; i < 4; i++) x.seen(3 - i, 90 + i);
    for (int i = 0; i < 8; i++) x.matter(15 - i, 99 - 7 * i, 9 - i);
    x.force(4);
    for (int i = 0; i < 12; i++) {
      x.set(15 - i);
      if (i % 4 == 3) x.turn();
    }
  }

  /** WORDS that are as broad as they have letters, times ten: 10, 20, 30, 90. */
  static void words(HeadFits x) {
    Check.word(x, "a", 0, 1, 10);
    Check.word(x, "bb", 1, 2, 5);
    Check.word(x, "ccc", 2, 3, 0);
    Check.word(x, "ddddddddd", 3, 4, 7);
  }

  /** The HEAD has as many WORDS as it may, all in one LINE that has room for more. */
  static void fullHead(HeadFits x) {
    words(x);
    x.column(400, 4);
    for (int i = 0; i < 12; i++) x.set(0);
  }
}
