import java.util.function.Consumer;

/** Promises 1 to 8: a new object, its numbers, the TAPE. */
final class ColumnBounds {
  private static final Consumer<HeadFits> UNTOUCHED = Desks::untouched;
  private static final Consumer<HeadFits> BUSY = Desks::busy;

  private ColumnBounds() {}

  private static void due(String call, long got, long want) {
    Check.due(call, got, want);
  }

  // Promise 1: a new object.

  static void promise01NothingIsCountedAtFirst() {
    HeadFits x = new HeadFits();
    for (int what = 0; what <= 12; what++) due("count " + what, x.count(what), 0);
    due("status", x.status(), 0);
  }

  static void promise01TheColumnAtFirst() {
    HeadFits x = new HeadFits();
    due("hairs", x.count(16), 100);
    due("lines", x.count(17), 3);
    due("size", x.count(18), 0);
  }

  static void promise01TermsAreZeroAtFirst() {
    HeadFits x = new HeadFits();
    due("day", x.count(14), 0);
    due("mood", x.count(15), 0);
  }

  static void promise01NoLawIsInForceAtFirst() {
    HeadFits x = new HeadFits();
    due("count 13", x.count(13), -1);
    due("force", x.force(-1), -1);
    due("force is no refusal", x.status(), 0);
  }

  static void promise01BreadthsAtFirst() {
    HeadFits x = new HeadFits();
    for (int letter = 0; letter < 26; letter++) due("letter " + letter, x.breadth(letter, 3), 10);
    due("blank", x.breadth(26, 3), 5);
  }

  static void promise01WorthsAreOneAtFirst() {
    HeadFits x = new HeadFits();
    for (int sense = 0; sense < 8; sense++) due("sense " + sense, x.worth(sense, 0), 1);
  }

  static void promise01NoWordStandsNextDoorAtFirst() {
    HeadFits x = new HeadFits();
    for (int line = 0; line < 4; line++) due("line " + line, x.beside(line, -1), -1);
  }

  static void promise01NothingIsToldYet() {
    HeadFits x = new HeadFits();
    due("at", x.at(0, 0), -1);
    due("head", x.head(0, 0), -1);
    due("fault", x.fault(), -1);
    due("stopped", x.stopped(), -1);
    due("drawn", x.drawn(0), -1);
    due("over", x.over(), -1);
    due("narrow", x.narrow(), -1);
    due("largest", x.largest(), -1);
    due("changed", x.changed(0), -1);
    for (int what = 0; what < 15; what++) {
      due("fit " + what, x.fit(what), -1);
      due("truest " + what, x.truest(what), -1);
    }
    due("none of these is a refusal", x.count(8) + x.status(), 0);
  }

  static void promise01NothingStandsYet() {
    HeadFits x = new HeadFits();
    due("cost", x.cost(), 0);
    due("hush", x.hush(), 0);
    due("forget", x.forget(), 0);
    due("cancel", x.cancel(), 0);
    due("changed, how many", x.changed(-1), 0);
    for (int what = 0; what < 3; what++) {
      due("edition " + what, x.edition(what), 0);
      due("says " + what, x.says(400, what), 0);
    }
    for (int line = 0; line < 4; line++) {
      for (int what = 0; what < 5; what++) due("line " + line + what, x.line(line, what), 0);
    }
  }

  static void promise01ObjectsAreApart() {
    HeadFits x = new HeadFits();
    Desks.full(x);
    HeadFits y = new HeadFits();
    Desks.busy(x);
    due("status", y.status(), 0);
    due("a refusal of the other one", y.count(10), 0);
    due("a word of the other one", y.count(0), 0);
    due("a law of the other one", y.count(5), 0);
    due("an image of the other one", y.back(0), -2);
  }

  static void promise01TheLastOf512Calls() {
    HeadFits x = new HeadFits();
    for (int i = 0; i < 511; i++) x.undo();
    due("the 512th call", x.count(10), 511);
  }

  // Promise 2: breadth.

  static void promise02LettersAreFrom0To26() {
    Bounds.refusesBeyond("letter", UNTOUCHED, (x, n) -> x.breadth(n, 7), 0, 26, -1);
  }

  static void promise02HairsAreFrom1To20() {
    Bounds.refusesBeyond("hairs", UNTOUCHED, (x, n) -> x.breadth(3, n), 1, 20, -1);
  }

  static void promise02TheLeastAndTheMostHairsAreKept() {
    HeadFits x = new HeadFits();
    Check.word(x, "az", 0, 0, 0);
    x.breadth(0, 1);
    x.breadth(25, 20);
    due("how broad", x.at(0, 4), 21);
    due("what it was", x.breadth(0, 20), 1);
    due("what it was", x.breadth(25, 1), 20);
  }

  static void promise02TheBlankIsALetterOfItsOwn() {
    HeadFits x = new HeadFits();
    Desks.words(x);
    due("it was", x.breadth(26, 20), 5);
    x.set(0);
    due("left behind a blank", x.set(0), 100 - 10 - 20 - 10);
    due("z is as it was", x.breadth(25, 10), 10);
  }

  static void promise02ARefusalLeavesAllAsItWas() {
    Bounds.refused("a letter too high", BUSY, x -> x.breadth(27, 5), -1);
    Bounds.refused("hairs too few", BUSY, x -> x.breadth(1, 0), -1);
    Bounds.refused("hairs too many", BUSY, x -> x.breadth(26, 21), -1);
    Bounds.refused("both at once", BUSY, x -> x.breadth(-1, 21), -1);
  }

  static void promise02WordsInTheHeadDoNotRefuseIt() {
    HeadFits x = new HeadFits();
    Desks.words(x);
    x.set(3);
    due("broader", x.breadth(3, 20), 10);
    due("status", x.status(), 0);
    due("the line is too broad then", x.line(0, 0), 180);
  }

  // Promise 3: column.

  static void promise03HairsAreFrom10To400() {
    Bounds.refusesBeyond("hairs", UNTOUCHED, (x, n) -> x.column(n, 2), 10, 400, -1);
  }

  static void promise03LinesAreFrom1To4() {
    Bounds.refusesBeyond("lines", UNTOUCHED, (x, n) -> x.column(50, n), 1, 4, -1);
  }

  static void promise03TheLeastAndTheMostAreKept() {
    HeadFits x = new HeadFits();
    due("least", x.column(10, 1), 0);
    due("hairs", x.count(16), 10);
    due("lines", x.count(17), 1);
    due("most", x.column(400, 4), 0);
    due("hairs", x.count(16), 400);
    due("lines", x.count(17), 4);
  }

  static void promise03AHeadWithWordsRefusesIt() {
    Bounds.refused("a head with words", BUSY, x -> x.column(90, 3), -3);
    Bounds.refused("a full head", Desks::fullHead, x -> x.column(10, 1), -3);
  }

  static void promise03ANumberComesAheadOfTheHead() {
    Bounds.refused("too few hairs", BUSY, x -> x.column(9, 3), -1);
    Bounds.refused("too many hairs", BUSY, x -> x.column(401, 3), -1);
    Bounds.refused("too few lines", BUSY, x -> x.column(100, 0), -1);
    Bounds.refused("too many lines", BUSY, x -> x.column(100, 5), -1);
  }

  static void promise03AHeadThatIsEmptyAgain() {
    HeadFits x = new HeadFits();
    Desks.words(x);
    x.set(0);
    x.undo();
    due("behind undo", x.column(20, 1), 0);
    x.set(0);
    due("one word refuses it", x.column(30, 1), -3);
    x.clear();
    due("behind clear", x.column(30, 1), 0);
  }

  // Promise 4: size.

  static void promise04SizesAreFrom0To2() {
    Bounds.refusesBeyond("size", UNTOUCHED, (x, n) -> x.size(n), 0, 2, -1);
  }

  static void promise04WhatItWas() {
    HeadFits x = new HeadFits();
    due("at first", x.size(2), 0);
    due("the largest", x.size(0), 2);
    due("the least", x.size(1), 0);
    due("the same", x.size(1), 1);
  }

  static void promise04AHeadWithWordsRefusesIt() {
    Bounds.refused("another size", BUSY, x -> x.size(2), -3);
    Bounds.refused("the same size", BUSY, x -> x.size(1), -3);
  }

  static void promise04ANumberComesAheadOfTheHead() {
    Bounds.refused("too small", BUSY, x -> x.size(-1), -1);
    Bounds.refused("too large", BUSY, x -> x.size(3), -1);
  }

  static void promise04EachLetterIsCutByItself() {
    HeadFits x = new HeadFits();
    Check.word(x, "aab", 0, 0, 0);
    x.breadth(0, 1);
    x.breadth(1, 19);
    x.size(1);
    due("halves are cut", x.at(0, 4), 1 + 1 + 28);
    x.size(2);
    due("twice", x.at(0, 4), 2 + 2 + 38);
    x.size(0);
    due("once", x.at(0, 4), 1 + 1 + 19);
  }

  static void promise04TheBlankIsCutToo() {
    HeadFits x = new HeadFits();
    Desks.words(x);
    x.size(1);
    x.set(0);
    due("five by three halves", x.set(0), 100 - 15 - 7 - 15);
    due("the line", x.line(0, 0), 37);
  }

  // Promise 5: worth.

  static void promise05SensesAreFrom0To7() {
    Bounds.refusesBeyond("sense", BUSY, (x, n) -> x.worth(n, 5), 0, 7, -1);
  }

  static void promise05ValuesAreFrom0To99() {
    Bounds.refusesBeyond("value", BUSY, (x, n) -> x.worth(3, n), 0, 99, -1);
  }

  static void promise05WhatItWas() {
    HeadFits x = new HeadFits();
    due("at first", x.worth(7, 99), 1);
    due("the most", x.worth(7, 0), 99);
    due("too much", x.worth(7, 100), -1);
    due("the least stays", x.worth(7, 1), 0);
  }

  // Promise 6: terms.

  static void promise06WhatIs0Or1() {
    Bounds.refusesBeyond("what", BUSY, (x, n) -> x.terms(n, 3), 0, 1, -1);
  }

  static void promise06DaysAreFrom0To999() {
    Bounds.refusesBeyond("day", BUSY, (x, n) -> x.terms(0, n), 0, 999, -1);
  }

  static void promise06MoodsAreFrom0To9() {
    Bounds.refusesBeyond("mood", BUSY, (x, n) -> x.terms(1, n), 0, 9, -1);
  }

  static void promise06WhatItWas() {
    HeadFits x = new HeadFits();
    due("day at first", x.terms(0, 999), 0);
    due("the last day", x.terms(0, 0), 999);
    due("mood at first", x.terms(1, 9), 0);
    due("the last mood", x.terms(1, 0), 9);
    due("no mood, though a day", x.terms(1, 10), -1);
    due("the first mood stays", x.terms(1, 1), 0);
    due("the first day stays", x.terms(0, 1), 0);
  }

  // Promises 7, 8: feed and end.

  private static void bytes(HeadFits x, int many) {
    for (int i = 0; i < 20; i++) x.feed(0x74757220, 0x74757220, 0x74757220, 0x74757220, 0x74757220);
    x.end(many);
  }

  static void promise07TheTapeHas400BytesAtMost() {
    HeadFits x = new HeadFits();
    for (int i = 1; i <= 20; i++) due("feed " + i, x.feed(1, 2, 3, 4, 5), 20 * i);
    due("the 401st byte", x.feed(1, 2, 3, 4, 5), -1);
    due("it has", x.count(7), 400);
  }

  static void promise07JustRoomForTwenty() {
    HeadFits x = new HeadFits();
    bytes(x, 380);
    due("380 and 20", x.feed(1, 2, 3, 4, 5), 400);
    HeadFits y = new HeadFits();
    bytes(y, 381);
    due("381 and 20", y.feed(1, 2, 3, 4, 5), -1);
    due("none of them came", y.count(7), 381);
  }

  static void promise07WithoutRoomAllIsAsItWas() {
    Bounds.none("a full tape", x -> bytes(x, 400), x -> x.feed(1, 2, 3, 4, 5));
    Bounds.none("381 bytes", x -> bytes(x, 381), x -> x.feed(-1, -1, -1, -1, -1));
  }

  static void promise07TheHighestByteComesFirst() {
    HeadFits x = new HeadFits();
    x.feed(0x61626364, 0x65666768, 0x7a303030, 0, 0);
    x.end(9);
    due("abcdefghz", x.word(0, 0, 0), 0);
    due("a", x.at(0, 5), 0);
    x.feed(0x7a797877, 0x76757473, 0x61000000, 0, 0);
    x.end(9);
    due("zyxwvutsa", x.word(0, 0, 0), 1);
    due("z", x.at(1, 5), 25);
  }

  static void promise07EachOfTheTwentyBytesComesInItsPlace() {
    for (int place = 0; place < 20; place++) {
      HeadFits x = new HeadFits();
      int[] numbers = new int[5];
      for (int i = 0; i < 5; i++) numbers[i] = 0x20202020;
      numbers[place / 4] ^= 0x1f << 8 * (3 - place % 4);
      x.feed(numbers[0], numbers[1], numbers[2], numbers[3], numbers[4]);
      due("a law", x.law(), -6);
      due("what is no blank stands at its place", x.fault(), place);
    }
  }

  static void promise07BytesAreFrom0To255() {
    int[] others = {0, 31, 33, 127, 128, 160, 255};
    for (int other : others) {
      HeadFits x = new HeadFits();
      x.feed(0x62617273, other << 24, 0, 0, 0);
      x.end(5);
      due("a law with byte " + other, x.law(), -6);
      due("fault with byte " + other, x.fault(), 4);
    }
  }

  static void promise07IsNeverRefused() {
    HeadFits x = new HeadFits();
    x.say(9);
    bytes(x, 400);
    x.feed(0, 0, 0, 0, 0);
    due("the status of another call stays", x.status(), -1);
    due("refusals", x.count(8), 1);
  }

  static void promise08NIsFrom0ToWhatTheTapeHas() {
    Bounds.noneBeyond("n of 20", x -> x.feed(0, 0, 0, 0, 0), (x, n) -> x.end(n), 0, 20);
    Bounds.noneBeyond("n of 400", x -> bytes(x, 400), (x, n) -> x.end(n), 0, 400);
  }

  static void promise08ATapeThatIsEmpty() {
    HeadFits x = new HeadFits();
    due("0 of 0", x.end(0), 0);
    due("1 of 0", x.end(1), -1);
    due("-1 of 0", x.end(-1), -1);
  }

  static void promise08WhatIsCutAwayIsGone() {
    HeadFits x = new HeadFits();
    Check.write(x, "abcdef");
    due("two", x.end(2), 2);
    due("not three", x.end(3), -1);
    due("it has", x.count(7), 2);
    due("more comes behind the two", x.feed(0x7a7a7a7a, 0, 0, 0, 0), 22);
    x.end(3);
    due("abz", x.word(0, 0, 0), 0);
    due("letters", x.at(0, 3), 3);
  }

  static void promise08TheFirstBytesStay() {
    HeadFits x = new HeadFits();
    Check.write(x, "bars if 1=1");
    x.end(4);
    due("bars", x.law(), 0);
  }
}
