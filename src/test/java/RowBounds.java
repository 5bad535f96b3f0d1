import java.util.function.Consumer;
import java.util.function.ToIntFunction;

/** Promises 26 to 31: ROWS for the SAYING, and what one LINE says most. */
final class RowBounds {
  private RowBounds() {}

  private static void due(String call, long got, long want) {
    Check.due(call, got, want);
  }

  /** WORDS of 10, 20, 30 and 90 hairs, one of each SENSE, of which these are said. */
  private static HeadFits saying(int... senses) {
    HeadFits x = new HeadFits();
    Desks.words(x);
    for (int sense : senses) x.say(sense);
    return x;
  }

  /** Three WORDS of a SENSE that is said six times: as many ROWS as there can be. */
  private static HeadFits mostRows() {
    HeadFits x = new HeadFits();
    for (int i = 0; i < 3; i++) Check.word(x, "ab", 4, 5, 9);
    for (int i = 0; i < 6; i++) x.say(4);
    x.column(400, 4);
    return x;
  }

  private static final Consumer<HeadFits> NOTHING_SAID = Desks::words;
  private static final Consumer<HeadFits> NO_WORD = x -> {
    Desks.words(x);
    x.say(0);
    x.say(7);
  };
  private static final Consumer<HeadFits> ALL_BARRED = x -> {
    Desks.words(x);
    x.say(0);
    x.say(1);
    Check.inForce(x, "bars if word=1");
  };

  private static void noneOf(String call, ToIntFunction<HeadFits> asked) {
    Bounds.none(call + ", nothing said", NOTHING_SAID, asked);
    Bounds.none(call + ", no word for a sense", NO_WORD, asked);
    Bounds.none(call + ", all barred", ALL_BARRED, asked);
  }

  // Promise 26: fit.

  static void promise26NoneTold() {
    HeadFits x = saying();
    for (int what = -1; what < 17; what++) due("what " + what, x.fit(what), -1);
    x.say(0);
    due("one told", x.fit(1), 1);
    x.hush();
    for (int what = -1; what < 17; what++) due("what " + what + " again", x.fit(what), -1);
  }

  static void promise26NoRow() {
    HeadFits x = saying(0, 7);
    for (int what = 0; what < 15; what++) due("no word, " + what, x.fit(what), what == 1 ? 0 : -1);
    HeadFits y = new HeadFits();
    ALL_BARRED.accept(y);
    for (int what = 0; what < 15; what++) due("barred, " + what, y.fit(what), what == 1 ? 0 : -1);
  }

  static void promise26NoneFits() {
    HeadFits x = saying(3);
    x.column(89, 4);
    for (int what = 0; what < 15; what++) due("what " + what, x.fit(what), what == 1 ? 0 : -1);
  }

  static void promise26ItJustFits() {
    HeadFits x = saying(3);
    x.column(90, 1);
    due("ways", x.fit(1), 1);
    due("cost", x.fit(0), 4);
    due("lines", x.fit(2), 1);
    HeadFits y = saying(0, 1);
    y.column(35, 1);
    due("two with a blank", y.fit(1), 1);
    y.column(34, 1);
    due("one hair too broad", y.fit(1), 0);
    y.column(34, 2);
    due("in two lines", y.fit(1), 1);
    due("a turn", y.fit(10), 1);
  }

  static void promise26WhatIsFrom0To14() {
    Consumer<HeadFits> six = x -> {
      Desks.words(x);
      for (int i = 0; i < 6; i++) x.say(i % 3);
      x.column(100, 4);
    };
    Bounds.noneBeyond("what", six, (x, n) -> x.fit(n), 0, 14);
    HeadFits x = new HeadFits();
    six.accept(x);
    for (int i = 0; i < 6; i++) due("word " + i, x.fit(3 + i), i % 3);
  }

  static void promise26NoneToldBeyondTheSaying() {
    HeadFits x = saying(0);
    due("the first word", x.fit(3), 0);
    due("no second word", x.fit(4), -1);
    due("no sixth word", x.fit(8), -1);
    due("the first turn", x.fit(9), 0);
    due("no second turn", x.fit(10), -1);
    due("no sixth turn", x.fit(14), -1);
    HeadFits y = saying(0, 1, 2, 0, 1);
    due("the fifth word", y.fit(7), 1);
    due("no sixth word", y.fit(8), -1);
    due("the fifth turn", y.fit(13) >= 0 ? 1 : 0, 1);
    due("no sixth turn", y.fit(14), -1);
  }

  static void promise26NoTurnAheadOfTheFirst() {
    HeadFits x = saying(0, 0);
    x.column(10, 4);
    due("the first", x.fit(9), 0);
    due("the second", x.fit(10), 1);
    due("one way", x.fit(1), 1);
  }

  static void promise26NoTurnAheadOfTheFirstWhateverItsWord() {
    HeadFits x = saying(1, 1);
    x.column(20, 2);
    due("the first word", x.fit(3), 1);
    due("no turn ahead of it", x.fit(9), 0);
    due("no turn in the truest", x.truest(9), 0);
    due("a turn ahead of the second", x.truest(10), 1);
  }

  static void promise26ATurnAheadOfTheSixth() {
    HeadFits x = saying(0, 0, 0, 0, 0, 3);
    x.column(90, 2);
    due("ways", x.fit(1), 1);
    due("lines", x.fit(2), 2);
    for (int i = 0; i < 6; i++) {
      due("turn " + i, x.fit(9 + i), i == 5 ? 1 : 0);
      due("turn of the truest " + i, x.truest(9 + i), i == 5 ? 1 : 0);
    }
    x.column(400, 1);
    due("one line", x.fit(2), 1);
    for (int i = 0; i < 6; i++) due("no turn of the truest " + i, x.truest(9 + i), 0);
  }

  static void promise26NoRowAnyMore() {
    HeadFits x = saying(0);
    due("one", x.fit(1), 1);
    Check.inForce(x, "bars");
    due("barred", x.fit(1), 0);
    due("barred", x.fit(0), -1);
    due("barred", x.truest(0), -1);
    x.force(-1);
    due("one again", x.fit(1), 1);
    x.say(7);
    due("no word for the second", x.fit(1), 0);
    due("no word for the second", x.truest(3), -1);
  }

  static void promise26AnEchoOfTheFirstOrALaterWord() {
    HeadFits x = new HeadFits();
    for (int i = 0; i < 4; i++) Check.word(x, "ab", i / 2, 0, 0);
    x.say(0);
    x.say(1);
    x.column(100, 1);
    Check.inForce(x, "costs 10*echo");
    due("the first words", x.fit(3) * 10 + x.fit(4), 2);
    x.beside(0, 0);
    due("no echo by the first", x.fit(3) * 10 + x.fit(4), 12);
    x.beside(0, 2);
    due("no echo by the second", x.fit(3) * 10 + x.fit(4), 3);
    x.column(20, 2);
    due("the second stands in another line", x.fit(3) * 10 + x.fit(4), 2);
    x.beside(1, 2);
    due("no echo in the second line", x.fit(3) * 10 + x.fit(4), 3);
    due("cost", x.fit(0), 0);
  }

  static void promise26TwentyMoreForEachLineThatIsAlike() {
    HeadFits x = new HeadFits();
    Check.word(x, "xa", 5, 0, 0);
    Check.word(x, "ab", 0, 0, 0);
    Check.word(x, "bb", 0, 20, 0);
    Check.word(x, "cb", 0, 21, 0);
    x.say(0);
    x.say(0);
    x.column(20, 3);
    due("as dear as another word", x.fit(0), 20);
    due("the first words", x.fit(3) * 10 + x.fit(4), 11);
    Check.inForce(x, "loses 19 if word=2");
    due("another word is cheaper", x.fit(0), 19);
    due("words", x.fit(3) * 10 + x.fit(4), 12);
    x.say(0);
    due("one between two", x.fit(0), 19);
    due("words", x.fit(3) * 100 + x.fit(4) * 10 + x.fit(5), 121);
    Check.inForce(x, "bars if word>1");
    due("twice alike", x.fit(0), 40);
  }

  static void promise26LinesAtMost() {
    for (int lines = 1; lines <= 4; lines++) {
      HeadFits x = saying();
      x.column(10, lines);
      for (int i = 0; i < lines; i++) x.say(0);
      due("as many as " + lines, x.fit(1), 1);
      due("lines", x.fit(2), lines);
      x.say(0);
      due("one more than " + lines, x.fit(1), 0);
      due("one more than " + lines, x.fit(2), -1);
    }
  }

  static void promise26AsManyRowsAsThereCanBe() {
    HeadFits x = mostRows();
    int[] ways = {1, 6, 16, 26};
    for (int lines = 1; lines <= 4; lines++) {
      x.column(400, lines);
      due("in " + lines, x.fit(1), 729 * ways[lines - 1]);
    }
  }

  static void promise26TheMostARowCosts() {
    HeadFits x = mostRows();
    x.column(20, 4);
    x.hush();
    for (int i = 0; i < 4; i++) x.say(4);
    Check.inForce(x, "loses 1000;costs 1000");
    due("four words in four lines", x.fit(0), 8 * 999);
    x.column(55, 4);
    x.say(4);
    x.say(4);
    due("six words in three lines", x.fit(0), 9 * 999);
    due("lines", x.fit(2), 3);
  }

  static void promise26TheLeastARowCosts() {
    HeadFits x = mostRows();
    Check.inForce(x, "loses 0-9;costs 0-9");
    due("cost", x.fit(0), 0);
    due("the first words", x.fit(3) + x.fit(8), 0);
    due("no turn", x.fit(2), 1);
  }

  static void promise26OfEqualRowsTheFirstWords() {
    HeadFits x = new HeadFits();
    Check.word(x, "bb", 1, 5, 0);
    Check.word(x, "aa", 0, 5, 0);
    Check.word(x, "cc", 0, 5, 0);
    Check.word(x, "dd", 1, 5, 0);
    x.say(0);
    x.say(1);
    due("for the first sense", x.fit(3), 1);
    due("for the second sense", x.fit(4), 0);
  }

  static void promise26OfEqualRowsTheFirstTurns() {
    HeadFits x = saying(0, 0, 0);
    x.column(25, 2);
    Check.inForce(x, "costs 7");
    due("two ways", x.fit(1), 2);
    due("none ahead of the second", x.fit(10), 0);
    due("one ahead of the third", x.fit(11), 1);
  }

  static void promise26WordsComeAheadOfTurns() {
    HeadFits x = new HeadFits();
    Check.word(x, "aaaa", 0, 0, 0);
    Check.word(x, "bb", 0, 0, 0);
    x.say(0);
    x.say(0);
    x.column(80, 2);
    Check.inForce(x, "costs 5 if many=2;costs 0 if many=1;loses 5 if word=0");
    due("two short ones in two lines", x.fit(0), 0);
    due("the second word", x.fit(3), 1);
    Check.inForce(x, "costs 0;loses 0");
    due("the first word though it turns", x.fit(3) + x.fit(4), 0);
    due("a turn", x.fit(10), 1);
  }

  static void promise26TheHeadIsAside() {
    HeadFits x = saying(0, 1);
    x.set(3);
    due("a head with words", x.fit(1), 2);
    due("cost", x.fit(0), 1 + 2 + 65);
  }

  // Promises 27, 28: over, narrow.

  static void promise27NoRow() {
    noneOf("over", x -> x.over());
  }

  static void promise27ByHowManyHairs() {
    HeadFits x = saying(3);
    x.column(91, 1);
    due("one hair left", x.over(), 0);
    x.column(90, 1);
    due("it just fits", x.over(), 0);
    x.column(89, 1);
    due("one hair", x.over(), 1);
    x.column(10, 1);
    due("all but ten", x.over(), 80);
  }

  static void promise27WhereItIsLeast() {
    HeadFits x = saying(0, 1, 2);
    x.column(10, 1);
    due("in one line", x.over(), 70 - 10);
    x.column(10, 2);
    due("in two", x.over(), 35 - 10);
    x.column(10, 3);
    due("in three", x.over(), 30 - 10);
    x.column(10, 4);
    due("in three still", x.over(), 30 - 10);
    Check.word(x, "c", 2, 0, 0);
    due("a narrower word", x.over(), 20 - 10);
  }

  static void promise28NoRow() {
    noneOf("narrow", x -> x.narrow());
  }

  static void promise28BelowTen() {
    HeadFits x = saying(0);
    x.breadth(0, 1);
    due("one hair", x.narrow(), 1);
    x.breadth(0, 9);
    due("nine", x.narrow(), 9);
  }

  static void promise28Above400() {
    HeadFits x = saying(3, 3, 3, 3, 3, 3);
    x.breadth(3, 20);
    x.breadth(26, 20);
    x.size(2);
    x.column(10, 1);
    due("as broad as can be", x.narrow(), 6 * 360 + 5 * 40);
    due("over", x.over(), 6 * 360 + 5 * 40 - 10);
    x.column(400, 4);
    due("in four lines", x.narrow(), 2 * 360 + 40);
  }

  static void promise28TheColumnIsAside() {
    HeadFits x = saying(3);
    x.column(10, 1);
    due("broader", x.narrow(), 90);
    x.column(400, 1);
    due("narrower", x.narrow(), 90);
  }

  // Promise 29: largest.

  static void promise29NoRow() {
    noneOf("largest", x -> x.largest());
  }

  static void promise29NoneFits() {
    Bounds.none("one hair too narrow", x -> {
      Desks.words(x);
      x.say(3);
      x.column(89, 1);
    }, x -> x.largest());
  }

  static void promise29EachSizeJustFits() {
    HeadFits x = saying(3);
    int[][] told = {{90, 0}, {134, 0}, {135, 1}, {179, 1}, {180, 2}, {400, 2}};
    for (int[] one : told) {
      x.column(one[0], 1);
      due(one[0] + " hairs", x.largest(), one[1]);
    }
  }

  static void promise29TheSizeNowIsAside() {
    for (int size = 0; size <= 2; size++) {
      HeadFits x = saying(3);
      x.column(135, 1);
      x.size(size);
      due("size " + size, x.largest(), 1);
      due("it stays " + size, x.count(18), size);
    }
  }

  static void promise29BarsAskOfTheSizeThatIsTried() {
    HeadFits x = saying(0);
    Check.inForce(x, "bars if size=2");
    due("not 2", x.largest(), 1);
    Check.inForce(x, "bars if size>0");
    due("not 1", x.largest(), 0);
    Check.inForce(x, "bars if size<2");
    due("2 alone", x.largest(), 2);
    Check.inForce(x, "bars");
    due("none", x.largest(), -1);
  }

  // Promise 30: truest.

  static void promise30NoRow() {
    for (int what : new int[] {0, 1, 2, 3, 9}) noneOf("truest " + what, x -> x.truest(what));
  }

  static void promise30NoneFits() {
    HeadFits x = saying(3);
    x.column(89, 4);
    for (int what = 0; what < 15; what++) due("what " + what, x.truest(what), -1);
    x.column(90, 1);
    due("it just fits", x.truest(0), 7);
  }

  static void promise30WhatIsFrom0To14() {
    Consumer<HeadFits> six = x -> {
      Desks.words(x);
      for (int i = 0; i < 6; i++) x.say(i % 3);
      x.column(100, 4);
    };
    Bounds.noneBeyond("what", six, (x, n) -> x.truest(n), 0, 14);
  }

  static void promise30NoneToldBeyondTheSaying() {
    HeadFits x = saying(0, 1);
    due("the second word", x.truest(4), 1);
    due("no third word", x.truest(5), -1);
    due("no sixth word", x.truest(8), -1);
    due("the second turn", x.truest(10), 0);
    due("no third turn", x.truest(11), -1);
    due("no sixth turn", x.truest(14), -1);
  }

  private static void fraction(int truth, int senses, int upper, int lower) {
    HeadFits x = new HeadFits();
    Check.word(x, "a", 0, 0, truth);
    for (int i = 0; i < senses; i++) x.say(0);
    due(truth + ", " + senses + " times, upper", x.truest(0), upper);
    due(truth + ", " + senses + " times, lower", x.truest(1), lower);
  }

  static void promise30LowestTerms() {
    fraction(0, 1, 0, 1);
    fraction(0, 6, 0, 1);
    fraction(10, 1, 1, 1);
    fraction(10, 6, 1, 1);
    fraction(1, 1, 1, 10);
    fraction(1, 6, 1, 1000000);
    fraction(9, 6, 531441, 1000000);
    fraction(5, 6, 1, 64);
    fraction(8, 6, 4096, 15625);
    fraction(4, 2, 4, 25);
  }

  static void promise30TruthOf0IsARowStill() {
    HeadFits x = saying(2, 0);
    due("upper", x.truest(0), 0);
    due("lower", x.truest(1), 1);
    due("cost", x.truest(2), 3 + 1 + 55);
    due("word", x.truest(3), 2);
    due("turn", x.truest(10), 0);
  }

  static void promise30OfEqualRowsTheFirst() {
    HeadFits x = new HeadFits();
    Check.word(x, "aaaa", 0, 99, 6);
    Check.word(x, "b", 0, 0, 6);
    Check.word(x, "c", 1, 0, 6);
    x.say(0);
    x.say(1);
    x.column(40, 2);
    due("the first word, whatever it costs", x.truest(3), 0);
    due("and turns", x.truest(10), 1);
    x.column(55, 2);
    due("no turn, if it fits without", x.truest(10), 0);
    x.column(54, 2);
    due("a turn, if one hair is missing", x.truest(10), 1);
  }

  static void promise30ItCostsInAllItsLines() {
    HeadFits x = new HeadFits();
    Check.word(x, "ab", 0, 1, 9);
    Check.word(x, "ac", 1, 2, 9);
    Check.word(x, "c", 2, 4, 9);
    x.say(0);
    x.say(1);
    x.say(2);
    x.column(36, 3);
    due("white, and alike once", x.truest(2), 7 + 16 + 16 - 15 + 20);
    Check.inForce(x, "costs line*100+many*10+echo");
    due("lines and how many", x.truest(2), 7 + 10 + 120);
    x.beside(0, 0);
    due("an echo by the first", x.truest(2), 7 + 11 + 120);
    x.beside(1, 2);
    due("an echo by the last", x.truest(2), 7 + 11 + 121);
    x.beside(1, 0);
    due("an echo of another line", x.truest(2), 7 + 11 + 120);
  }

  static void promise30OnlyRowsThatFit() {
    HeadFits x = new HeadFits();
    Check.word(x, "aaaa", 0, 0, 10);
    Check.word(x, "bbb", 0, 0, 1);
    x.say(0);
    x.column(40, 1);
    due("the truest just fits", x.truest(3), 0);
    x.column(39, 1);
    due("one hair too broad", x.truest(3), 1);
    x.column(29, 1);
    due("none", x.truest(3), -1);
  }

  // Promise 31: says.

  static void promise31HairsAreFrom1To400() {
    Consumer<HeadFits> said = x -> {
      Desks.busy(x);
      x.breadth(0, 1);
    };
    for (int what = 0; what < 3; what++) {
      int asked = what;
      Bounds.noneBeyond("hairs", said, (x, n) -> x.says(n, asked), 1, 400);
    }
  }

  static void promise31WhatIsFrom0To2() {
    Bounds.noneBeyond("what", Desks::busy, (x, n) -> x.says(50, n), 0, 2);
  }

  static void promise31NothingCanBeSaid() {
    HeadFits x = saying();
    for (int what = 0; what < 3; what++) due("nothing said, " + what, x.says(400, what), 0);
    HeadFits y = saying(7);
    for (int what = 0; what < 3; what++) due("no word, " + what, y.says(400, what), 0);
    HeadFits z = saying(0);
    Check.inForce(z, "bars");
    for (int what = 0; what < 3; what++) due("all barred, " + what, z.says(400, what), 0);
    z.force(-1);
    for (int what = 0; what < 3; what++) due("too broad, " + what, z.says(9, what), 0);
    due("it just fits", z.says(10, 1), 1);
  }

  static void promise31ASenseWithoutAWordIsLeftOut() {
    HeadFits x = saying(7, 0, 6);
    x.worth(7, 99);
    x.worth(6, 99);
    due("worth", x.says(400, 0), 1);
    due("the second place alone", x.says(400, 1), 2);
    due("broad", x.says(400, 2), 10);
  }

  static void promise31OneHairIsEnough() {
    HeadFits x = saying(0);
    x.breadth(0, 1);
    due("worth", x.says(1, 0), 1);
    due("broad", x.says(1, 2), 1);
  }

  static void promise31JustSoBroad() {
    HeadFits x = saying(0, 1);
    due("both with a blank", x.says(35, 1), 3);
    due("how broad", x.says(35, 2), 35);
    due("one hair too few", x.says(34, 1), 1);
    due("how broad", x.says(34, 2), 10);
  }

  static void promise31AllPlacesAndTheMostWorth() {
    HeadFits x = saying(0, 0, 0, 0, 0, 0);
    x.worth(0, 99);
    due("worth", x.says(85, 0), 6 * 99);
    due("places", x.says(85, 1), 63);
    due("broad", x.says(85, 2), 85);
    due("five of them", x.says(84, 1), 31);
  }

  static void promise31WorthOf0IsLeftOut() {
    HeadFits x = saying(0, 1);
    x.worth(0, 0);
    due("the other one alone", x.says(400, 1), 2);
    x.worth(1, 0);
    for (int what = 0; what < 3; what++) due("none, " + what, x.says(400, what), 0);
  }

  static void promise31TheLowestBits() {
    HeadFits x = saying(2, 1, 0);
    due("one place", x.says(30, 1), 1);
    due("two places", x.says(50, 1), 5);
    due("the lowest two", x.says(55, 1), 3);
  }

  static void promise31TheNarrowestThatIsNotBarred() {
    HeadFits x = saying(2);
    Check.word(x, "cc", 2, 0, 0);
    Check.word(x, "e", 2, 0, 0);
    due("the narrowest", x.says(400, 2), 10);
    Check.inForce(x, "bars if word=5");
    due("the next one", x.says(400, 2), 20);
    due("one hair too few for it", x.says(19, 0), 0);
  }

  static void promise31TheColumnIsAside() {
    HeadFits x = saying(3);
    x.column(10, 1);
    due("broader than the column", x.says(90, 0), 1);
  }
}
