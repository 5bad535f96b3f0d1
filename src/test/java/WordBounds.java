import java.util.function.Consumer;

/** Promises 9 and 10: WORDS. */
final class WordBounds {
  private static final Consumer<HeadFits> BUSY = Desks::busy;

  private WordBounds() {}

  private static void due(String call, long got, long want) {
    Check.due(call, got, want);
  }

  /** The TAPE has a WORD that may be; there are others of SENSES 0 and 1. */
  private static void readyToRead(HeadFits x) {
    Desks.busy(x);
    x.end(0);
    Check.write(x, "xyz");
  }

  private static void emptyTape(HeadFits x) {
    x.end(0);
  }

  /** REFUSED, and of all else the TAPE alone is another: it is empty. */
  private static void refusedWithTape(
      String call, Consumer<HeadFits> before, String text, int sense, int why) {
    Consumer<HeadFits> written = x -> {
      before.accept(x);
      x.end(0);
      Check.write(x, text);
    };
    Bounds.refused(call, written, x -> x.word(sense, 0, 0), why, WordBounds::emptyTape);
  }

  private static void threeOfSense0(HeadFits x) {
    for (int i = 0; i < 3; i++) Check.word(x, "a", 0, i, i);
  }

  /** Sixteen WORDS, three of them of SENSE 0 and one of SENSE 5. */
  private static void sixteen(HeadFits x) {
    for (int i = 0; i < 16; i++) Check.word(x, "a", i / 3, 0, 0);
  }

  static void promise09SensesAreFrom0To7() {
    Bounds.refusesBeyond("sense", WordBounds::readyToRead, (x, n) -> x.word(n, 5, 5), 0, 7, -1);
  }

  static void promise09LossesAreFrom0To99() {
    Bounds.refusesBeyond("loss", WordBounds::readyToRead, (x, n) -> x.word(2, n, 5), 0, 99, -1);
  }

  static void promise09TruthsAreFrom0To10() {
    Bounds.refusesBeyond("truth", WordBounds::readyToRead, (x, n) -> x.word(2, 5, n), 0, 10, -1);
  }

  static void promise09TheLeastAndTheMostAreKept() {
    HeadFits x = new HeadFits();
    Check.word(x, "a", 0, 0, 0);
    Check.word(x, "zzzzzzzzz", 7, 99, 10);
    int[] least = {0, 0, 0, 1, 10, 0};
    int[] most = {7, 99, 10, 9, 90, 25};
    for (int what = 0; what < 6; what++) {
      due("the least, what " + what, x.at(0, what), least[what]);
      due("the most, what " + what, x.at(1, what), most[what]);
    }
  }

  static void promise09TheTapeStaysBehindAWrongNumber() {
    HeadFits x = new HeadFits();
    Check.write(x, "fox");
    due("a sense too high", x.word(8, 0, 0), -1);
    due("a loss too high", x.word(0, 100, 0), -1);
    due("a truth too high", x.word(0, 0, 11), -1);
    due("the tape has", x.count(7), 3);
    due("it is a word still", x.word(0, 0, 0), 0);
    due("its letters", x.at(0, 3), 3);
  }

  static void promise09TheTapeIsEmptyBehindAWord() {
    HeadFits x = new HeadFits();
    due("a word", Check.word(x, "fox", 0, 0, 0), 0);
    due("the tape has", x.count(7), 0);
  }

  static void promise09From1To9Letters() {
    HeadFits x = new HeadFits();
    due("one", Check.word(x, "a", 0, 0, 0), 0);
    due("nine", Check.word(x, "abcdefghi", 0, 0, 0), 1);
    due("none", Check.word(x, "", 0, 0, 0), -6);
    due("ten", Check.word(x, "abcdefghij", 0, 0, 0), -6);
    due("400", Check.word(x, "a".repeat(400), 0, 0, 0), -6);
    due("words", x.count(0), 2);
  }

  static void promise09LettersAreAToZ() {
    HeadFits x = new HeadFits();
    due("a and z", Check.word(x, "azza", 0, 0, 0), 0);
    int[] others = {0, ' ', '0', '9', 'A', 'Z', '`', '{', 127, 128, 'a' + 128, 'z' + 128, 255};
    for (int other : others) {
      char sign = (char) other;
      due("first: " + other, Check.word(x, sign + "bc", 0, 0, 0), -6);
      due("between: " + other, Check.word(x, "b" + sign + "c", 0, 0, 0), -6);
      due("last: " + other, Check.word(x, "bc" + sign, 0, 0, 0), -6);
      due("alone: " + other, Check.word(x, "" + sign, 0, 0, 0), -6);
    }
    due("words", x.count(0), 1);
  }

  static void promise09ABadTextEmptiesTheTapeAndNoMore() {
    refusedWithTape("no text", BUSY, "", 2, -6);
    refusedWithTape("ten letters", BUSY, "abcdefghij", 2, -6);
    refusedWithTape("a blank behind it", BUSY, "abc ", 2, -6);
  }

  static void promise09NoLettersStayOfABadText() {
    HeadFits x = new HeadFits();
    due("bad at its end", Check.word(x, "zzzzzzzz!", 0, 99, 10), -6);
    due("the next one", Check.word(x, "ab", 1, 2, 3), 0);
    int[] told = {1, 2, 3, 2, 20, 0, 2, 0};
    for (int what = 0; what < 8; what++) due("what " + what, x.at(0, what), told[what]);
  }

  static void promise09ThreeOfASense() {
    for (int sense = 0; sense < 8; sense++) {
      HeadFits x = new HeadFits();
      for (int i = 0; i < 3; i++) due("word " + i, Check.word(x, "a", sense, 0, 0), i);
      due("the fourth", Check.word(x, "a", sense, 0, 0), -3);
      due("one of another sense", Check.word(x, "a", (sense + 1) % 8, 0, 0), 3);
    }
  }

  static void promise09AFourthOfASenseEmptiesTheTapeAndNoMore() {
    refusedWithTape("a fourth", WordBounds::threeOfSense0, "abc", 0, -3);
  }

  static void promise09SixteenWordsAtMost() {
    HeadFits x = new HeadFits();
    for (int i = 0; i < 16; i++) due("word " + i, Check.word(x, "a", i / 2, 0, 0), i);
    due("the 17th", Check.word(x, "a", 7, 0, 0), -5);
    due("words", x.count(0), 16);
  }

  static void promise09NoRoomEmptiesTheTapeAndNoMore() {
    refusedWithTape("a 17th", Desks::full, "abc", 7, -5);
  }

  static void promise09ANumberComesAheadOfThreeOfASense() {
    HeadFits x = new HeadFits();
    threeOfSense0(x);
    Check.write(x, "abc");
    due("a loss", x.word(0, 100, 0), -1);
    due("a truth", x.word(0, 0, -1), -1);
    due("the tape stays", x.count(7), 3);
  }

  static void promise09ANumberComesAheadOfNoRoom() {
    HeadFits x = new HeadFits();
    sixteen(x);
    Check.write(x, "abc");
    due("a sense", x.word(-1, 0, 0), -1);
    due("a truth, three of the sense", x.word(0, 0, 11), -1);
    due("the tape stays", x.count(7), 3);
  }

  static void promise09ANumberComesAheadOfABadText() {
    HeadFits x = new HeadFits();
    Check.write(x, "ABC");
    due("a sense", x.word(8, 0, 0), -1);
    due("the tape stays", x.count(7), 3);
  }

  static void promise09ThreeOfASenseComeAheadOfNoRoom() {
    HeadFits x = new HeadFits();
    sixteen(x);
    due("three of it", Check.word(x, "a", 0, 0, 0), -3);
    due("one of it", Check.word(x, "a", 5, 0, 0), -5);
    due("none of it", Check.word(x, "a", 7, 0, 0), -5);
  }

  static void promise09ThreeOfASenseComeAheadOfABadText() {
    refusedWithTape("three and no text", WordBounds::threeOfSense0, "", 0, -3);
    refusedWithTape("three and a bad text", WordBounds::threeOfSense0, "A", 0, -3);
    refusedWithTape("three, no room and a bad text", WordBounds::sixteen, "A", 0, -3);
  }

  static void promise09NoRoomComesAheadOfABadText() {
    refusedWithTape("no room and no text", Desks::full, "", 7, -5);
    refusedWithTape("no room and a bad text", Desks::full, "abcdefghij", 7, -5);
  }

  static void promise09RefusalsTakeNoNumber() {
    HeadFits x = new HeadFits();
    due("first", Check.word(x, "a", 0, 0, 0), 0);
    x.word(9, 9, 9);
    x.word(0, 0, 0);
    due("second", Check.word(x, "b", 0, 0, 0), 1);
  }

  // Promise 10: at.

  static void promise10WordsAreFrom0ToTheLast() {
    Bounds.noneBeyond("word of four", BUSY, (x, n) -> x.at(n, 0), 0, 3);
    Bounds.noneBeyond("word of sixteen", Desks::full, (x, n) -> x.at(n, 6), 0, 15);
  }

  static void promise10WhatIsFrom0To7() {
    Bounds.noneBeyond("what", BUSY, (x, n) -> x.at(3, n), 0, 7);
  }

  static void promise10NoWordYet() {
    HeadFits x = new HeadFits();
    for (int what = 0; what < 8; what++) due("what " + what, x.at(0, what), -1);
  }

  static void promise10TheFirstAndTheLastLetter() {
    HeadFits x = new HeadFits();
    Check.word(x, "az", 0, 0, 0);
    Check.word(x, "za", 0, 0, 0);
    due("a", x.at(0, 5), 0);
    due("z", x.at(1, 5), 25);
  }

  static void promise10TheNarrowestAndTheBroadestWord() {
    HeadFits x = new HeadFits();
    Check.word(x, "a", 0, 0, 0);
    Check.word(x, "bbbbbbbbb", 0, 0, 0);
    x.breadth(0, 1);
    x.breadth(1, 20);
    due("one hair", x.at(0, 4), 1);
    x.size(2);
    due("360 hairs", x.at(1, 4), 360);
  }

  static void promise10ItLosesItsLossWithoutALaw() {
    HeadFits x = new HeadFits();
    Check.word(x, "a", 0, 0, 0);
    Check.word(x, "b", 0, 99, 0);
    due("the least loss", x.at(0, 6), 0);
    due("the most loss", x.at(1, 6), 99);
    due("it is not barred", x.at(1, 7), 0);
  }
}
