import java.util.function.Consumer;

/** Promises 15 to 24: FORCE, the SAYING, NEXT door, the HEAD. */
final class HeadBounds {
  private static final Consumer<HeadFits> BUSY = Desks::busy;

  private HeadBounds() {}

  private static void due(String call, long got, long want) {
    Check.due(call, got, want);
  }

  private static HeadFits withWords() {
    HeadFits x = new HeadFits();
    Desks.words(x);
    return x;
  }

  // Promise 15: force.

  static void promise15LawsAreFromNoneToTheLast() {
    Bounds.refusesBeyond("law of two", BUSY, (x, n) -> x.force(n), -1, 1, -2);
    Bounds.refusesBeyond("law of six", Desks::full, (x, n) -> x.force(n), -1, 5, -2);
  }

  static void promise15NoLawYet() {
    Bounds.refusesBeyond("law of none", Desks::untouched, (x, n) -> x.force(n), -1, -1, -2);
  }

  static void promise15WhichWas() {
    HeadFits x = new HeadFits();
    for (int i = 0; i < 6; i++) Check.law(x, "loses " + i);
    due("none was", x.force(5), -1);
    due("none is no refusal", x.status(), 0);
    due("the last was", x.force(0), 5);
    due("no such", x.force(6), -2);
    due("the first stays", x.force(-1), 0);
    due("none again", x.count(13), -1);
  }

  static void promise15NoneHasNoClause() {
    HeadFits x = withWords();
    Check.inForce(x, "bars;loses 9");
    due("barred", x.at(0, 7), 1);
    x.force(-1);
    due("not barred", x.at(0, 7), 0);
    due("it loses its loss", x.at(0, 6), 1);
  }

  // Promises 16, 17: say, hush.

  static void promise16SensesAreFrom0To7() {
    Bounds.refusesBeyond("sense", BUSY, (x, n) -> x.say(n), 0, 7, -1);
  }

  static void promise16SixSensesAtMost() {
    HeadFits x = new HeadFits();
    for (int i = 1; i <= 6; i++) due("say " + i, x.say(7), i);
    due("the seventh", x.say(7), -5);
    due("it has", x.count(1), 6);
  }

  static void promise16NoRoomLeavesAllAsItWas() {
    Bounds.refused("a seventh", Desks::full, x -> x.say(0), -5);
  }

  static void promise16ANumberComesAheadOfNoRoom() {
    Bounds.refused("too high", Desks::full, x -> x.say(8), -1);
    Bounds.refused("too low", Desks::full, x -> x.say(-1), -1);
  }

  static void promise17AnEmptySaying() {
    HeadFits x = new HeadFits();
    due("none", x.hush(), 0);
    due("none again", x.hush(), 0);
  }

  static void promise17AFullSaying() {
    HeadFits x = new HeadFits();
    for (int i = 0; i < 6; i++) x.say(i);
    due("six", x.hush(), 6);
    due("it has", x.count(1), 0);
    for (int i = 1; i <= 6; i++) due("room again", x.say(i), i);
  }

  static void promise17ItIsEmptyForFitToo() {
    HeadFits x = withWords();
    x.say(0);
    due("a row", x.fit(1), 1);
    due("it is true", x.truest(0), 1);
    x.hush();
    due("none told", x.fit(1), -1);
    due("no row", x.narrow(), -1);
    due("none is true", x.truest(0), -1);
    x.say(1);
    due("another word", x.fit(3), 1);
  }

  // Promise 18: beside.

  static void promise18LinesAreFrom0To3() {
    Bounds.refusesBeyond("line", BUSY, (x, n) -> x.beside(n, 1), 0, 3, -1);
  }

  static void promise18WordsAreFromNoneToTheLast() {
    Bounds.refusesBeyond("word of four", BUSY, (x, n) -> x.beside(1, n), -1, 3, -2);
    Bounds.refusesBeyond("word of sixteen", Desks::full, (x, n) -> x.beside(1, n), -1, 15, -2);
  }

  static void promise18NoWordYet() {
    Bounds.refusesBeyond("word", Desks::untouched, (x, n) -> x.beside(0, n), -1, -1, -2);
  }

  static void promise18ALineComesAheadOfAWord() {
    Bounds.refused("both too high", BUSY, x -> x.beside(4, 4), -1);
    Bounds.refused("both too low", BUSY, x -> x.beside(-1, -2), -1);
  }

  static void promise18WhatItWas() {
    HeadFits x = withWords();
    for (int line = 0; line < 4; line++) {
      due("none", x.beside(line, 3), -1);
      due("none is no refusal", x.status(), 0);
      due("the last word", x.beside(line, 0), 3);
      due("the first word", x.beside(line, -1), 0);
      due("none again", x.beside(line, line), -1);
    }
    for (int line = 0; line < 4; line++) due("each has its own", x.beside(line, -1), line);
  }

  static void promise18LinesThatTheColumnHasNot() {
    HeadFits x = withWords();
    x.column(100, 1);
    due("none", x.beside(3, 0), -1);
    due("it is no refusal", x.status(), 0);
    due("it was", x.beside(3, 1), 0);
  }

  // Promise 19: set.

  static void promise19WordsAreFrom0ToTheLast() {
    Bounds.refusesBeyond("word of four", Desks::words, (x, n) -> x.set(n), 0, 3, -2);
    Bounds.refused("below a busy head", BUSY, x -> x.set(-1), -2);
    Bounds.refused("above a busy head", BUSY, x -> x.set(4), -2);
  }

  static void promise19NoWordYet() {
    Bounds.refused("word 0", Desks::untouched, x -> x.set(0), -2);
  }

  static void promise19ItJustFits() {
    HeadFits x = withWords();
    x.column(90, 3);
    due("no hair left", x.set(3), 0);
    HeadFits y = withWords();
    y.column(89, 3);
    due("one hair too broad", y.set(3), -3);
    HeadFits z = withWords();
    z.column(91, 3);
    due("one hair left", z.set(3), 1);
  }

  static void promise19ItJustFitsWithABlank() {
    HeadFits x = withWords();
    x.column(35, 1);
    due("the first", x.set(0), 25);
    due("the second", x.set(1), 0);
    HeadFits y = withWords();
    y.column(34, 1);
    due("the first", y.set(0), 24);
    due("one hair too broad", y.set(1), -3);
    due("a narrower one fits still", y.set(0), 9);
  }

  static void promise19NoBlankAheadOfTheFirstOfALine() {
    HeadFits x = withWords();
    x.column(10, 2);
    due("the first line", x.set(0), 0);
    x.turn();
    due("the second line", x.set(0), 0);
  }

  static void promise19TooBroadLeavesAllAsItWas() {
    Bounds.refused("too broad", x -> {
      Desks.words(x);
      x.set(0);
    }, x -> x.set(3), -3);
    Bounds.refused("behind a turn", x -> {
      Desks.words(x);
      x.column(50, 2);
      x.set(0);
      x.turn();
    }, x -> x.set(3), -3);
  }

  static void promise19BarredLeavesAllAsItWas() {
    Bounds.refused("barred", x -> {
      Desks.words(x);
      Check.inForce(x, "bars if word=1");
      x.set(0);
    }, x -> x.set(1), -3);
  }

  static void promise19TwelveWordsAtMost() {
    HeadFits x = withWords();
    x.column(400, 4);
    for (int i = 1; i <= 12; i++) {
      due("word " + i, x.set(0), 400 - 15 * i + 5);
      due("words", x.count(2), i);
    }
    due("the 13th", x.set(0), -5);
    x.turn();
    due("in a new line, too", x.set(0), -5);
    due("words", x.count(2), 12);
  }

  static void promise19NoRoomLeavesAllAsItWas() {
    Bounds.refused("a 13th", Desks::fullHead, x -> x.set(1), -5);
  }

  static void promise19NoSuchWordComesAheadOfNoRoom() {
    Bounds.refused("too high", Desks::fullHead, x -> x.set(4), -2);
    Bounds.refused("too low", Desks::fullHead, x -> x.set(-1), -2);
  }

  static void promise19NoSuchWordComesAheadOfABarredOne() {
    Bounds.refused("all are barred", x -> {
      Desks.words(x);
      Check.inForce(x, "bars");
    }, x -> x.set(4), -2);
  }

  static void promise19TooBroadComesAheadOfNoRoom() {
    Bounds.refused("twelve fill the line", x -> {
      Desks.words(x);
      x.column(180, 1);
      for (int i = 0; i < 12; i++) x.set(0);
    }, x -> x.set(0), -3);
    HeadFits x = withWords();
    x.column(190, 1);
    for (int i = 0; i < 12; i++) x.set(0);
    due("one more would just fit", x.set(0), -5);
  }

  static void promise19BarredComesAheadOfNoRoom() {
    Bounds.refused("barred", x -> {
      Desks.fullHead(x);
      Check.inForce(x, "bars if word=1");
    }, x -> x.set(1), -3);
    Bounds.refused("another is barred", x -> {
      Desks.fullHead(x);
      Check.inForce(x, "bars if word=1");
    }, x -> x.set(0), -5);
  }

  // Promises 20, 21: turn, clear.

  static void promise20WithoutWords() {
    Bounds.refused("an empty head", Desks::words, x -> x.turn(), -3);
    HeadFits x = withWords();
    x.set(0);
    x.clear();
    due("behind clear", x.turn(), -3);
    x.set(0);
    x.undo();
    due("behind undo", x.turn(), -3);
  }

  static void promise20TheLineSoFarHasNoWords() {
    Bounds.refused("twice", x -> {
      Desks.words(x);
      x.set(0);
      x.turn();
    }, x -> x.turn(), -3);
  }

  static void promise20TheLastLine() {
    for (int lines = 1; lines <= 4; lines++) {
      HeadFits x = withWords();
      x.column(50, lines);
      for (int line = 1; line < lines; line++) {
        x.set(0);
        due("line " + line + " of " + lines, x.turn(), line);
      }
      x.set(0);
      due("no more than " + lines, x.turn(), -3);
      due("the next one comes in the last line", x.set(0), 50 - 25);
      due("the last line", x.line(lines - 1, 1), 2);
    }
  }

  static void promise20NoOtherLineLeavesAllAsItWas() {
    Bounds.refused("one line", x -> {
      Desks.words(x);
      x.column(100, 1);
      x.set(0);
    }, x -> x.turn(), -3);
  }

  static void promise20AFullHeadTurnsStill() {
    HeadFits x = new HeadFits();
    Desks.fullHead(x);
    due("a new line", x.turn(), 1);
  }

  static void promise21None() {
    Bounds.refused("never any", Desks::words, x -> x.clear(), -3);
    Bounds.refused("twice", x -> {
      Desks.busy(x);
      x.clear();
    }, x -> x.clear(), -3);
  }

  static void promise21OneAndTwelve() {
    HeadFits x = withWords();
    x.set(0);
    due("one", x.clear(), 1);
    HeadFits y = new HeadFits();
    Desks.fullHead(y);
    due("twelve", y.clear(), 12);
    due("none", y.count(2), 0);
    due("there is room again", y.set(0), 390);
  }

  static void promise21TheFirstLineComesNext() {
    HeadFits x = withWords();
    x.set(0);
    x.turn();
    due("behind a turn", x.clear(), 1);
    x.set(1);
    due("line", x.head(0, 1), 0);
    due("a turn from there", x.turn(), 1);
  }

  // Promises 22 to 24: head, line, cost.

  static void promise22IIsFrom0ToTheLast() {
    Bounds.noneBeyond("i of three", BUSY, (x, n) -> x.head(n, 0), 0, 2);
    Bounds.noneBeyond("i of twelve", Desks::fullHead, (x, n) -> x.head(n, 1), 0, 11);
  }

  static void promise22WhatIs0Or1() {
    Bounds.noneBeyond("what", BUSY, (x, n) -> x.head(0, n), 0, 1);
  }

  static void promise22AnEmptyHead() {
    HeadFits x = withWords();
    due("word", x.head(0, 0), -1);
    due("line", x.head(0, 1), -1);
    x.set(0);
    x.clear();
    due("behind clear", x.head(0, 0), -1);
  }

  static void promise22TheLastWordInTheLastLine() {
    HeadFits x = new HeadFits();
    for (int i = 0; i < 16; i++) Check.word(x, "a", i / 2, 0, 0);
    x.column(35, 4);
    x.breadth(26, 1);
    for (int i = 0; i < 12; i++) {
      if (i > 0 && i % 3 == 0) x.turn();
      due("set " + i, x.set(i + 4), 35 - 10 - 11 * (i % 3));
    }
    for (int i = 0; i < 12; i++) {
      due("word " + i, x.head(i, 0), i + 4);
      due("line " + i, x.head(i, 1), i / 3);
    }
  }

  static void promise23LinesAreFrom0To3() {
    Bounds.noneBeyond("line", BUSY, (x, n) -> x.line(n, 0), 0, 3);
  }

  static void promise23WhatIsFrom0To4() {
    Bounds.noneBeyond("what", BUSY, (x, n) -> x.line(1, n), 0, 4);
  }

  static void promise23LinesThatTheColumnHasNot() {
    HeadFits x = withWords();
    x.column(100, 1);
    x.set(0);
    for (int what = 0; what < 5; what++) due("what " + what, x.line(3, what), 0);
  }

  static void promise23ALineWithoutWords() {
    HeadFits x = withWords();
    x.set(0);
    x.turn();
    for (int what = 0; what < 5; what++) due("what " + what, x.line(1, what), 0);
  }

  static void promise23OneWordHasNoBlank() {
    HeadFits x = withWords();
    x.set(0);
    due("one", x.line(0, 0), 10);
    x.set(0);
    due("two", x.line(0, 0), 25);
    x.set(0);
    due("three", x.line(0, 0), 40);
  }

  static void promise23AFullLine() {
    HeadFits x = new HeadFits();
    Desks.fullHead(x);
    due("how broad", x.line(0, 0), 12 * 10 + 11 * 5);
    due("how many", x.line(0, 1), 12);
  }

  static void promise23TheFirstLineIsNeverAlike() {
    HeadFits x = withWords();
    x.column(100, 4);
    for (int line = 0; line < 4; line++) {
      x.set(0);
      due("line " + line, x.line(line, 3), line == 0 ? 0 : 1);
      x.turn();
    }
  }

  static void promise23OnlyTheFirstWordsAreAlike() {
    HeadFits x = withWords();
    x.set(0);
    x.set(1);
    x.turn();
    x.set(1);
    x.set(0);
    due("the first with the second", x.line(1, 3), 0);
    x.turn();
    x.set(0);
    due("the line above alone, not the first", x.line(2, 3), 0);
  }

  static void promise23TheLastWordOfALineIsAnEcho() {
    HeadFits x = withWords();
    x.beside(0, 1);
    x.beside(1, 0);
    x.set(0);
    due("not yet", x.line(0, 4), 0);
    x.set(1);
    due("the last one", x.line(0, 4), 1);
    x.turn();
    x.set(1);
    due("of another line", x.line(1, 4), 0);
    x.set(0);
    x.set(1);
    due("the middle one", x.line(1, 4), 1);
    x.beside(1, -1);
    due("none next door", x.line(1, 4), 0);
  }

  static void promise23TheFirstWordOfTheHeadIsAnEcho() {
    HeadFits x = withWords();
    x.beside(0, 0);
    x.set(0);
    due("alone", x.line(0, 4), 1);
    x.set(1);
    due("with another behind it", x.line(0, 4), 1);
  }

  static void promise23TheSameLettersAreNoEcho() {
    HeadFits x = new HeadFits();
    Check.word(x, "a", 0, 0, 0);
    Check.word(x, "a", 0, 0, 0);
    x.beside(0, 1);
    x.set(0);
    due("another word", x.line(0, 4), 0);
  }

  static void promise24AnEmptyHead() {
    HeadFits x = withWords();
    Check.inForce(x, "loses 5;costs 7");
    due("none", x.cost(), 0);
    x.set(0);
    due("one", x.cost(), 12);
    x.clear();
    due("none again", x.cost(), 0);
  }

  static void promise24TheMostAHeadCosts() {
    HeadFits x = withWords();
    x.column(400, 4);
    Check.inForce(x, "loses 1000;costs 1000");
    for (int i = 0; i < 12; i++) {
      if (i > 0 && i % 3 == 0) x.turn();
      x.set(0);
    }
    due("all words and all lines", x.cost(), 12 * 999 + 4 * 999);
  }

  static void promise24EachTimeAWordStandsItLoses() {
    HeadFits x = withWords();
    x.column(25, 1);
    x.set(0);
    x.set(0);
    due("twice its loss", x.cost(), 1 + 1);
  }

  static void promise24ALineThatIsTooBroadCosts0() {
    HeadFits x = withWords();
    x.column(90, 2);
    x.set(3);
    x.breadth(3, 20);
    due("the loss alone", x.cost(), 4);
    x.turn();
    x.set(0);
    due("the next line", x.cost(), 4 + 1 + 80);
  }
}
