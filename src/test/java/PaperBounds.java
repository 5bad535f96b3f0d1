import java.util.function.Consumer;

/** Promises 32 to 39: SEEN, CHANGED, MATTERS, the EDITION, READERS. */
final class PaperBounds {
  private static final Consumer<HeadFits> BUSY = Desks::busy;

  private PaperBounds() {}

  private static void due(String call, long got, long want) {
    Check.due(call, got, want);
  }

  // Promises 32, 33: seen, forget.

  static void promise32LinesAreFrom0To3() {
    Bounds.refusesBeyond("line", BUSY, (x, n) -> x.seen(n, 5), 0, 3, -1);
  }

  static void promise32HairsAreFrom0To999() {
    Bounds.refusesBeyond("hairs", BUSY, (x, n) -> x.seen(1, n), 0, 999, -1);
  }

  static void promise32FourAtMost() {
    HeadFits x = new HeadFits();
    for (int i = 1; i <= 4; i++) due("seen " + i, x.seen(3, 999), i);
    due("the fifth", x.seen(0, 0), -5);
    due("there are", x.count(3), 4);
  }

  static void promise32NoRoomLeavesAllAsItWas() {
    Bounds.refused("a fifth", Desks::full, x -> x.seen(0, 50), -5);
  }

  static void promise32ANumberComesAheadOfNoRoom() {
    Bounds.refused("a line too high", Desks::full, x -> x.seen(4, 0), -1);
    Bounds.refused("a line too low", Desks::full, x -> x.seen(-1, 0), -1);
    Bounds.refused("too many hairs", Desks::full, x -> x.seen(0, 1000), -1);
    Bounds.refused("too few hairs", Desks::full, x -> x.seen(0, -1), -1);
  }

  static void promise33NoneAndFour() {
    HeadFits x = new HeadFits();
    due("none", x.forget(), 0);
    for (int i = 0; i < 4; i++) x.seen(i, i);
    due("four", x.forget(), 4);
    due("there are", x.count(3), 0);
    due("none again", x.forget(), 0);
    due("room again", x.seen(0, 0), 1);
  }

  // Promise 34: changed.

  /** The HEAD: a WORD of 10 hairs in the first LINE, one of 20 in the second. */
  private static HeadFits twoLines() {
    HeadFits x = new HeadFits();
    Desks.words(x);
    Check.word(x, "eee", 0, 0, 0);
    Check.word(x, "ffff", 1, 0, 0);
    x.set(0);
    x.turn();
    x.set(1);
    return x;
  }

  static void promise34AnEmptyHead() {
    HeadFits x = new HeadFits();
    Desks.words(x);
    due("how many", x.changed(-1), 0);
    due("the first", x.changed(0), -1);
    x.seen(0, 0);
    due("a line that is so broad", x.changed(-1), 0);
  }

  static void promise34NoOtherWordOfThatSense() {
    HeadFits x = new HeadFits();
    Desks.words(x);
    x.set(0);
    due("how many", x.changed(-1), 0);
    due("the first", x.changed(0), -1);
  }

  static void promise34NothingSeen() {
    HeadFits x = twoLines();
    due("how many", x.changed(-1), 2);
    due("the first", x.changed(0), 4);
    due("the second", x.changed(1), 16 + 5);
  }

  static void promise34IIsFromNoneToTheLast() {
    HeadFits x = twoLines();
    for (int i : new int[] {Integer.MIN_VALUE, -3, -2, 2, 3, Integer.MAX_VALUE}) {
      due("i " + i, x.changed(i), -1);
    }
    due("none of them is a refusal", x.status() + x.count(8), 0);
  }

  static void promise34JustAsBroad() {
    HeadFits x = twoLines();
    x.seen(0, 30);
    due("as broad", x.changed(-1), 1);
    due("which", x.changed(0), 4);
    x.forget();
    x.seen(0, 29);
    due("one hair less", x.changed(-1), 0);
    x.forget();
    x.seen(0, 31);
    due("one hair more", x.changed(-1), 0);
  }

  static void promise34AsBroadAsItWasWithoutAChange() {
    HeadFits x = twoLines();
    x.seen(0, 10);
    x.seen(1, 20);
    due("one word must be another", x.changed(-1), 0);
  }

  static void promise34AllThatWasSeen() {
    HeadFits x = twoLines();
    x.seen(0, 30);
    x.seen(1, 20);
    due("both lines", x.changed(-1), 1);
    x.seen(2, 0);
    due("a line without words", x.changed(-1), 1);
    x.seen(3, 1);
    due("a line without words is not so broad", x.changed(-1), 0);
  }

  static void promise34TheFourthThatWasSeenCounts() {
    HeadFits x = twoLines();
    for (int i = 0; i < 3; i++) x.seen(0, 30);
    due("three times the same", x.changed(-1), 1);
    x.seen(0, 10);
    due("and another", x.changed(-1), 0);
  }

  static void promise34BarsAndTheColumnAreAside() {
    HeadFits x = new HeadFits();
    Check.word(x, "a", 0, 0, 0);
    Check.word(x, "bbbbbbbbb", 0, 0, 0);
    x.column(10, 1);
    x.set(0);
    Check.inForce(x, "bars");
    x.seen(0, 90);
    due("too broad and barred", x.changed(-1), 1);
    due("which", x.changed(0), 1);
  }

  static void promise34TheLastPlaceAndTheLastWord() {
    HeadFits x = new HeadFits();
    for (int i = 0; i < 16; i++) Check.word(x, "a", i / 2, 0, 0);
    x.column(400, 1);
    for (int i = 0; i < 12; i++) x.set(14);
    due("how many", x.changed(-1), 12);
    due("the first", x.changed(0), 15);
    due("the last", x.changed(11), 16 * 11 + 15);
    due("no more", x.changed(12), -1);
  }

  static void promise34EachOfThreeOfASense() {
    HeadFits x = new HeadFits();
    for (int i = 0; i < 3; i++) Check.word(x, "a", 7, 0, 0);
    x.set(1);
    due("how many", x.changed(-1), 2);
    due("the first", x.changed(0), 0);
    due("the second", x.changed(1), 2);
  }

  // Promises 35, 36: matter, cancel.

  static void promise35MinutesAreFrom1To99() {
    Bounds.refusesBeyond("minutes", BUSY, (x, n) -> x.matter(n, 5, 5), 1, 99, -1);
  }

  static void promise35DueIsFrom0To999() {
    Bounds.refusesBeyond("due", BUSY, (x, n) -> x.matter(5, n, 5), 0, 999, -1);
  }

  static void promise35WorthIsFrom1To99() {
    Bounds.refusesBeyond("worth", BUSY, (x, n) -> x.matter(5, 5, n), 1, 99, -1);
  }

  static void promise35EightAtMost() {
    HeadFits x = new HeadFits();
    for (int i = 0; i < 8; i++) due("matter " + i, x.matter(1, 999, 1), i);
    due("the ninth", x.matter(1, 999, 1), -5);
    due("there are", x.count(4), 8);
  }

  static void promise35NoRoomLeavesAllAsItWas() {
    Bounds.refused("a ninth", Desks::full, x -> x.matter(1, 1, 99), -5);
  }

  static void promise35ANumberComesAheadOfNoRoom() {
    Bounds.refused("minutes", Desks::full, x -> x.matter(0, 1, 1), -1);
    Bounds.refused("due", Desks::full, x -> x.matter(1, 1000, 1), -1);
    Bounds.refused("worth", Desks::full, x -> x.matter(1, 1, 100), -1);
  }

  static void promise36NoneAndEight() {
    HeadFits x = new HeadFits();
    due("none", x.cancel(), 0);
    for (int i = 0; i < 8; i++) x.matter(1, 999, 1);
    due("eight", x.cancel(), 8);
    due("there are", x.count(4), 0);
    due("nothing is done", x.edition(0), 0);
    due("none again", x.cancel(), 0);
    due("numbers begin again", x.matter(1, 999, 1), 0);
  }

  // Promise 37: edition.

  static void promise37NoMatters() {
    HeadFits x = new HeadFits();
    for (int what = 0; what < 3; what++) due("what " + what, x.edition(what), 0);
    due("none in order", x.edition(3), -1);
  }

  static void promise37WhatIsFrom0ToTheLastInOrder() {
    Consumer<HeadFits> eight = x -> {
      for (int i = 0; i < 8; i++) x.matter(1, 999, 1);
    };
    Bounds.noneBeyond("what of eight", eight, (x, n) -> x.edition(n), 0, 10);
    Consumer<HeadFits> one = x -> x.matter(1, 999, 1);
    Bounds.noneBeyond("what of one", one, (x, n) -> x.edition(n), 0, 3);
    Bounds.noneBeyond("what of none", Desks::untouched, (x, n) -> x.edition(n), 0, 2);
  }

  static void promise37DoneNoLaterThanDue() {
    HeadFits x = new HeadFits();
    x.matter(10, 10, 1);
    due("just done", x.edition(0), 1);
    x.cancel();
    x.matter(10, 9, 1);
    for (int what = 0; what < 3; what++) due("a minute late, " + what, x.edition(what), 0);
    due("a minute late, order", x.edition(3), -1);
    x.cancel();
    x.matter(1, 0, 99);
    due("nothing is done by minute 0", x.edition(0), 0);
    x.cancel();
    x.matter(1, 1, 99);
    due("by minute 1", x.edition(2), 1);
  }

  static void promise37TheSecondJustDone() {
    HeadFits x = new HeadFits();
    x.matter(10, 20, 1);
    x.matter(10, 10, 1);
    due("both", x.edition(1), 3);
    due("minute", x.edition(2), 20);
    x.cancel();
    x.matter(10, 19, 1);
    x.matter(10, 10, 1);
    due("the lowest", x.edition(1), 1);
    due("minute", x.edition(2), 10);
  }

  static void promise37AllEightAndTheMostOfAll() {
    HeadFits x = new HeadFits();
    for (int i = 0; i < 8; i++) x.matter(99, 999, 99);
    due("worth", x.edition(0), 8 * 99);
    due("which", x.edition(1), 255);
    due("minute", x.edition(2), 8 * 99);
    for (int i = 0; i < 8; i++) due("order " + i, x.edition(3 + i), i);
    x.cancel();
    for (int i = 0; i < 8; i++) x.matter(99, 8 * 99 - 1, 99);
    due("one is too many", x.edition(1), 127);
  }

  static void promise37OfEqualOnesTheLowestBits() {
    HeadFits x = new HeadFits();
    for (int i = 0; i < 8; i++) x.matter(1, 1, 5);
    due("one of them", x.edition(1), 1);
    x.cancel();
    x.matter(3, 3, 6);
    x.matter(2, 3, 3);
    x.matter(1, 3, 3);
    due("one worth as much as two", x.edition(1), 1);
    due("in order", x.edition(3), 0);
  }

  static void promise37TheOrderIsByDueThenNumbers() {
    HeadFits x = new HeadFits();
    int[] dues = {50, 40, 50, 40, 999, 39, 41, 50};
    for (int due : dues) x.matter(1, due, 1);
    int[] order = {5, 1, 3, 6, 0, 2, 7, 4};
    for (int i = 0; i < 8; i++) due("order " + i, x.edition(3 + i), order[i]);
  }

  // Promises 38, 39: readers, drawn.

  static void promise38SeedsAreFrom0To1000000() {
    Bounds.refusesBeyond("seed", BUSY, (x, n) -> x.readers(n, 3), 0, 1000000, -1);
  }

  static void promise38NIsFrom1To100() {
    Bounds.refusesBeyond("n", BUSY, (x, n) -> x.readers(3, n), 1, 100, -1);
  }

  static void promise38AnEmptyHead() {
    HeadFits x = new HeadFits();
    due("one believes all", x.readers(0, 1), 1);
    due("a hundred believe all", x.readers(1000000, 100), 100);
    due("no word", x.drawn(0), -1);
  }

  static void promise38TruthsOf0And10() {
    HeadFits x = new HeadFits();
    Check.word(x, "a", 0, 0, 10);
    Check.word(x, "b", 0, 0, 0);
    x.set(0);
    due("all believe it", x.readers(5, 100), 100);
    x.set(1);
    due("none believes both", x.readers(5, 100), 0);
    due("all believe the first", x.drawn(0), 100);
    due("none the second", x.drawn(1), 0);
  }

  // From SEED 0 the first s is 12345, so that the DRAW is 5.
  static void promise38ADrawIsBelowTheTruth() {
    int[] believed = {0, 0, 0, 0, 0, 0, 1, 1, 1, 1, 1};
    for (int truth = 0; truth <= 10; truth++) {
      HeadFits x = new HeadFits();
      Check.word(x, "a", 0, 0, truth);
      x.set(0);
      due("truth " + truth, x.readers(0, 1), believed[truth]);
    }
  }

  /** How often of n draws from a seed each of ten comes up. */
  private static int[] draws(long seed, int n) {
    int[] often = new int[10];
    long s = seed;
    for (int i = 0; i < n; i++) {
      s = (s * 1103 + 12345) % 1000003;
      often[(int) (s % 10)]++;
    }
    return often;
  }

  static void promise38DrawsWrapAroundAt1000003() {
    for (int seed : new int[] {0, 1, 895, 896, 999999, 1000000}) {
      int below = 0;
      for (int truth = 1; truth <= 10; truth++) {
        below += draws(seed, 100)[truth - 1];
        HeadFits x = new HeadFits();
        Check.word(x, "a", 0, 0, truth);
        x.set(0);
        due("seed " + seed + ", truth " + truth, x.readers(seed, 100), below);
      }
    }
  }

  static void promise38EachReadsAllWordsWhateverItBelieves() {
    HeadFits x = new HeadFits();
    Check.word(x, "a", 0, 0, 0);
    Check.word(x, "b", 1, 0, 6);
    x.set(0);
    x.set(1);
    long s = 9;
    int second = 0;
    for (int i = 0; i < 200; i++) {
      s = (s * 1103 + 12345) % 1000003;
      if (i % 2 == 1 && s % 10 < 6) second++;
    }
    due("all", x.readers(9, 100), 0);
    due("the second word", x.drawn(1), second);
  }

  static void promise39IIsFrom0ToTheLast() {
    Bounds.noneBeyond("i of three", BUSY, (x, n) -> x.drawn(n), 0, 2);
    Consumer<HeadFits> twelve = x -> {
      Desks.fullHead(x);
      x.readers(1, 1);
    };
    Bounds.noneBeyond("i of twelve", twelve, (x, n) -> x.drawn(n), 0, 11);
  }

  static void promise39NoReadersYet() {
    HeadFits x = new HeadFits();
    Desks.words(x);
    x.set(0);
    due("none", x.drawn(0), -1);
    due("refused", x.readers(0, 0), -1);
    due("none still", x.drawn(0), -1);
  }

  static void promise39TheHeadThatTheyHad() {
    HeadFits x = new HeadFits();
    Desks.words(x);
    x.set(0);
    x.readers(4, 7);
    x.set(0);
    due("one word", x.drawn(0), 7);
    due("not the second", x.drawn(1), -1);
    x.clear();
    due("one word still", x.drawn(0), 7);
    x.readers(4, 8);
    due("an empty head", x.drawn(0), -1);
  }

  static void promise39RefusedOnesAreNotTheLatest() {
    HeadFits x = new HeadFits();
    Desks.words(x);
    x.set(0);
    x.readers(4, 100);
    x.readers(-1, 5);
    x.readers(1000001, 5);
    x.readers(4, 101);
    due("the latest", x.drawn(0), 100);
    x.readers(4, 1);
    due("the latest", x.drawn(0), 1);
  }
}
