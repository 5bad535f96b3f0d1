import java.util.function.Consumer;
import java.util.function.ToIntFunction;

/** Promises 40 to 43: IMAGES, count, status. */
final class KeepingBounds {
  private KeepingBounds() {}

  private static void due(String call, long got, long want) {
    Check.due(call, got, want);
  }

  // Promises 40, 41: image, back.

  static void promise40ImagesAre0And1() {
    Bounds.refusesBeyond("image", Desks::busy, (x, n) -> x.image(n), 0, 1, -1);
  }

  static void promise40ANewObjectIsKeptToo() {
    HeadFits x = new HeadFits();
    due("image", x.image(1), 0);
    Desks.busy(x);
    due("back", x.back(1), 0);
    x.end(0);
    HeadFits y = new HeadFits();
    Bounds.same("back to a new one", Snapshot.asked(x), Snapshot.asked(y), "fault", "stopped",
        "drawn 0", "drawn 1", "drawn 2");
  }

  static void promise40EachHasItsOwn() {
    HeadFits x = new HeadFits();
    x.worth(0, 10);
    x.image(0);
    x.worth(0, 11);
    x.image(1);
    x.worth(0, 12);
    due("back to 0", x.back(0), 0);
    due("worth of 0", x.worth(0, 13), 10);
    due("back to 1", x.back(1), 0);
    due("worth of 1", x.worth(0, 14), 11);
  }

  static void promise40KeptAnew() {
    HeadFits x = new HeadFits();
    x.image(0);
    x.worth(0, 10);
    x.image(0);
    x.worth(0, 11);
    x.back(0);
    due("the later one", x.worth(0, 1), 10);
  }

  static void promise40ItLetsAllElseBe() {
    HeadFits x = new HeadFits();
    Desks.busy(x);
    x.image(1);
    HeadFits y = new HeadFits();
    Desks.busy(y);
    Bounds.same("behind image", Snapshot.asked(x), Snapshot.asked(y));
  }

  static void promise41ImagesAre0And1() {
    Bounds.refusesBeyond("image", x -> {
      Desks.busy(x);
      x.image(1);
    }, (x, n) -> x.back(n), 0, 1, -1);
  }

  static void promise41ItWasNotKept() {
    Bounds.refused("0, none is kept", Desks::words, x -> x.back(0), -2);
    Bounds.refused("1, none is kept", Desks::words, x -> x.back(1), -2);
    Bounds.refused("1, only 0 is kept", Desks::busy, x -> x.back(1), -2);
    Bounds.refused("0, only 1 is kept", x -> {
      Desks.words(x);
      x.image(1);
    }, x -> x.back(0), -2);
  }

  static void promise41ANumberComesAheadOfNotKept() {
    Bounds.refused("too high", Desks::words, x -> x.back(2), -1);
    Bounds.refused("too low", Desks::words, x -> x.back(-1), -1);
  }

  static void promise41ARefusedImageKeepsNothing() {
    HeadFits x = new HeadFits();
    x.image(2);
    x.image(-1);
    due("0", x.back(0), -2);
    due("1", x.back(1), -2);
  }

  static void promise41AllIsAsItWasThen() {
    HeadFits x = new HeadFits();
    Desks.busy(x);
    x.image(1);
    changeAll(x);
    due("back", x.back(1), 0);
    HeadFits y = new HeadFits();
    Desks.busy(y);
    Bounds.same("back", Snapshot.asked(x), Snapshot.asked(y), "count 6", "drawn 0", "drawn 1",
        "drawn 2", "count 7", "fault", "stopped");
  }

  private static void changeAll(HeadFits x) {
    x.end(0);
    x.clear();
    x.column(300, 4);
    x.size(2);
    for (int letter = 0; letter < 27; letter++) x.breadth(letter, 17);
    for (int sense = 0; sense < 8; sense++) x.worth(sense, 50);
    x.terms(0, 900);
    x.terms(1, 8);
    Check.word(x, "zz", 0, 90, 1);
    Check.inForce(x, "loses 1;costs 1");
    x.hush();
    x.say(1);
    x.say(1);
    for (int line = 0; line < 4; line++) x.beside(line, 0);
    x.set(4);
    x.turn();
    x.set(1);
    x.forget();
    x.seen(2, 8);
    x.cancel();
    x.matter(1, 999, 99);
    x.readers(2, 2);
  }

  static void promise41BreadthsWorthsAndNextDoorAreAsTheyWere() {
    HeadFits x = new HeadFits();
    Desks.words(x);
    for (int letter = 0; letter < 27; letter++) x.breadth(letter, letter % 20 + 1);
    for (int sense = 0; sense < 8; sense++) x.worth(sense, 90 + sense);
    for (int line = 0; line < 4; line++) x.beside(line, 3 - line);
    x.image(0);
    changeAll(x);
    x.back(0);
    for (int letter = 0; letter < 27; letter++) {
      due("breadth " + letter, x.breadth(letter, 1), letter % 20 + 1);
    }
    for (int sense = 0; sense < 8; sense++) due("worth " + sense, x.worth(sense, 1), 90 + sense);
    for (int line = 0; line < 4; line++) due("beside " + line, x.beside(line, -1), 3 - line);
  }

  static void promise41FullRoomsAreAsTheyWere() {
    HeadFits x = new HeadFits();
    x.image(1);
    Desks.full(x);
    x.image(0);
    x.back(1);
    due("an empty one", x.count(0) + x.count(5), 0);
    x.back(0);
    HeadFits y = new HeadFits();
    Desks.full(y);
    Bounds.same("back", Snapshot.asked(x), Snapshot.asked(y), "count 6");
  }

  /** Back to a full desk, though others stood in all its places in the meantime. */
  private static void backToFull(boolean others) {
    HeadFits x = new HeadFits();
    x.image(0);
    fill(x, others);
    x.image(1);
    x.back(0);
    x.end(0);
    fill(x, !others);
    x.end(0);
    x.back(1);
    HeadFits y = new HeadFits();
    fill(y, others);
    y.end(0);
    Bounds.same("back", Snapshot.asked(x), Snapshot.asked(y), "count 6", "fault", "stopped");
  }

  private static void fill(HeadFits x, boolean others) {
    if (others) Desks.fullOfOthers(x);
    else Desks.full(x);
  }

  static void promise41AllPlacesAreAsTheyWereThoughOthersStoodThere() {
    backToFull(false);
    backToFull(true);
  }

  // CHANGED tells nothing where one of the four is not as it was.
  static void promise41AllFourThatWereSeenAreAsTheyWere() {
    HeadFits x = new HeadFits();
    Check.word(x, "a", 0, 0, 0);
    Check.word(x, "bb", 0, 0, 0);
    x.set(0);
    x.seen(0, 20);
    for (int line = 1; line < 4; line++) x.seen(line, 0);
    x.image(0);
    x.forget();
    for (int i = 0; i < 4; i++) x.seen(0, 999 - i);
    due("none is as seen", x.changed(-1), 0);
    x.back(0);
    due("one is", x.changed(-1), 1);
    x.forget();
    x.seen(3, 7);
    x.back(0);
    due("one is again", x.changed(-1), 1);
    due("there are", x.count(3), 4);
  }

  static void promise41TheTapeStays() {
    HeadFits x = new HeadFits();
    x.image(0);
    Check.write(x, "abc");
    x.back(0);
    due("it has", x.count(7), 3);
    due("the same bytes", x.word(0, 0, 0), 0);
  }

  static void promise41TheFaultStays() {
    HeadFits x = new HeadFits();
    Check.law(x, "bars bars");
    x.image(0);
    Check.law(x, "bars; bars bars");
    x.back(0);
    due("the later one", x.fault(), 11);
  }

  static void promise41WhereSettingsStoppedStays() {
    HeadFits x = new HeadFits();
    Check.settings(x, "turn");
    x.image(0);
    Check.settings(x, "size 0;size 0;turn");
    x.back(0);
    due("the later one", x.stopped(), 2);
  }

  static void promise41TheLatestReadersStay() {
    HeadFits x = new HeadFits();
    Desks.words(x);
    x.set(0);
    x.readers(1, 10);
    x.image(0);
    x.set(0);
    x.readers(1, 20);
    x.back(0);
    due("the first word", x.drawn(0), 20);
    due("the second word that the head had then", x.drawn(1), 20);
  }

  static void promise41NothingCanBeUndone() {
    HeadFits x = new HeadFits();
    Desks.words(x);
    x.set(0);
    x.set(1);
    x.image(0);
    x.clear();
    due("three ahead of it", x.count(6), 3);
    x.back(0);
    due("none behind it", x.count(6), 0);
    due("undo", x.undo(), -3);
    due("the head is as it was then", x.count(2), 2);
    x.turn();
    due("what comes behind it can be", x.undo(), 1);
    due("and no more", x.undo(), -3);
  }

  static void promise41ImagesStay() {
    HeadFits x = new HeadFits();
    x.worth(0, 10);
    x.image(0);
    x.worth(0, 11);
    x.image(1);
    for (int i = 0; i < 3; i++) {
      x.back(0);
      due("0, time " + i, x.worth(0, 50), 10);
      x.back(1);
      due("1, time " + i, x.worth(0, 51), 11);
    }
  }

  static void promise41TheLineThatWasTurnedToIsKept() {
    HeadFits x = new HeadFits();
    Desks.words(x);
    x.set(0);
    x.turn();
    x.image(0);
    x.set(1);
    x.turn();
    x.back(0);
    due("it was turned", x.turn(), -3);
    x.set(1);
    due("line", x.head(1, 1), 1);
  }

  static void promise41LawsComeAndGo() {
    HeadFits x = new HeadFits();
    Check.word(x, "a", 0, 0, 0);
    Check.inForce(x, "loses 1");
    x.image(0);
    Check.inForce(x, "loses 2");
    x.image(1);
    x.back(0);
    due("the second is gone", x.force(1), -2);
    due("another comes in its place", Check.law(x, "loses 3"), 1);
    x.force(1);
    due("it tells", x.at(0, 6), 3);
    x.back(1);
    due("the second as it was", x.at(0, 6), 2);
    x.back(0);
    due("the first", x.at(0, 6), 1);
  }

  static void promise41TheFirstLawComesAndGoesToo() {
    HeadFits x = new HeadFits();
    x.image(0);
    Check.word(x, "a", 0, 0, 0);
    Check.inForce(x, "loses 1");
    x.image(1);
    x.back(0);
    due("none is there", x.force(0), -2);
    due("none is in force", x.count(13), -1);
    Check.law(x, "loses 2");
    x.back(1);
    due("it is in force", x.count(13), 0);
    due("as it was", x.at(0, 6), 1);
  }

  static void promise41RefusalsAreNotKept() {
    HeadFits x = new HeadFits();
    x.image(0);
    x.say(9);
    x.set(0);
    x.turn();
    x.law();
    x.back(0);
    due("by -1", x.count(8), 1);
    due("by -2", x.count(9), 1);
    due("by -3", x.count(10), 1);
    due("by -6", x.count(12), 1);
    due("status", x.status(), 0);
  }

  // Promise 42: count.

  static void promise42WhatIsFrom0To18() {
    Bounds.noneBeyond("what", Desks::full, (x, n) -> x.count(n), 0, 18);
  }

  static void promise42AllRoomTaken() {
    HeadFits x = new HeadFits();
    Desks.full(x);
    int[] most = {16, 6, 12, 4, 8, 6, 12};
    for (int what = 0; what < most.length; what++) due("what " + what, x.count(what), most[what]);
    x.end(0);
    for (int i = 0; i < 20; i++) x.feed(0, 0, 0, 0, 0);
    due("bytes", x.count(7), 400);
  }

  static void promise42TheFirstAndTheLastOfEachNumber() {
    HeadFits x = new HeadFits();
    for (int i = 0; i < 6; i++) Check.law(x, "bars");
    x.force(5);
    x.terms(0, 999);
    x.terms(1, 9);
    x.column(400, 4);
    x.size(2);
    int[] most = {5, 999, 9, 400, 4, 2};
    for (int i = 0; i < 6; i++) due("what " + (13 + i), x.count(13 + i), most[i]);
    x.force(0);
    x.terms(0, 0);
    x.terms(1, 0);
    x.column(10, 1);
    x.size(0);
    int[] least = {0, 0, 0, 10, 1, 0};
    for (int i = 0; i < 6; i++) due("what " + (13 + i), x.count(13 + i), least[i]);
  }

  static void promise42EachRefusalIsCountedOnce() {
    HeadFits x = new HeadFits();
    Desks.full(x);
    x.end(0);
    int[] were = Bounds.refusals(x);
    x.breadth(27, 21);
    x.beside(0, 16);
    x.column(50, 2);
    x.say(0);
    x.settings();
    for (int i = 0; i < 5; i++) due("by each once, " + i, x.count(8 + i), were[i] + 1);
  }

  static void promise42NoneIsNoRefusal() {
    HeadFits x = new HeadFits();
    x.end(5);
    for (int i = 0; i < 21; i++) x.feed(0, 0, 0, 0, 0);
    x.at(9, 9);
    x.head(9, 9);
    x.line(9, 9);
    x.fit(99);
    x.over();
    x.narrow();
    x.largest();
    x.truest(99);
    x.says(0, 9);
    x.changed(9);
    x.edition(99);
    x.drawn(9);
    x.count(99);
    for (int what = 8; what <= 12; what++) due("what " + what, x.count(what), 0);
    due("status", x.status(), 0);
  }

  // Promise 43: status.

  static void promise43NoneAheadOfAny() {
    HeadFits x = new HeadFits();
    due("at first", x.status(), 0);
    x.hush();
    x.feed(0, 0, 0, 0, 0);
    x.end(99);
    due("ahead of any that can be refused", x.status(), 0);
  }

  /** What a call was REFUSED by is told, and 0 behind one that was not. */
  private static void told(String call, Consumer<HeadFits> before, ToIntFunction<HeadFits> refused,
      int why, ToIntFunction<HeadFits> granted) {
    HeadFits x = new HeadFits();
    before.accept(x);
    // Another refusal ahead of it, so that the one of this call shows.
    if (why == -1) x.force(99);
    else x.say(99);
    due(call, refused.applyAsInt(x), why);
    due(call + " is refused", x.status(), why);
    due("status lets it be", x.status(), why);
    granted.applyAsInt(x);
    due(call + " is granted", x.status(), 0);
  }

  static void promise43OfEachCallThatHasNumbers() {
    Consumer<HeadFits> none = Desks::words;
    told("breadth", none, x -> x.breadth(27, 1), -1, x -> x.breadth(26, 1));
    told("column", none, x -> x.column(9, 1), -1, x -> x.column(10, 1));
    told("size", none, x -> x.size(3), -1, x -> x.size(2));
    told("worth", none, x -> x.worth(8, 0), -1, x -> x.worth(7, 0));
    told("terms", none, x -> x.terms(2, 0), -1, x -> x.terms(1, 0));
    told("say", none, x -> x.say(8), -1, x -> x.say(7));
    told("beside", none, x -> x.beside(4, 0), -1, x -> x.beside(3, 0));
    told("seen", none, x -> x.seen(4, 0), -1, x -> x.seen(3, 0));
    told("matter", none, x -> x.matter(0, 0, 1), -1, x -> x.matter(1, 0, 1));
    told("readers", none, x -> x.readers(0, 0), -1, x -> x.readers(0, 1));
    told("image", none, x -> x.image(2), -1, x -> x.image(1));
    told("back", x -> x.image(1), x -> x.back(2), -1, x -> x.back(1));
    told("word", x -> Check.write(x, "a"), x -> x.word(8, 0, 0), -1, x -> x.word(7, 0, 0));
  }

  static void promise43OfEachCallThatNamesAThing() {
    told("force", x -> Check.law(x, "bars"), x -> x.force(1), -2, x -> x.force(0));
    told("beside", Desks::words, x -> x.beside(0, 4), -2, x -> x.beside(0, 3));
    told("set", Desks::words, x -> x.set(4), -2, x -> x.set(3));
    told("back", x -> x.image(0), x -> x.back(1), -2, x -> x.back(0));
  }

  static void promise43OfEachCallThatCantBeByWhatStands() {
    Consumer<HeadFits> one = x -> {
      Desks.words(x);
      x.column(90, 2);
      x.set(3);
    };
    told("set", one, x -> x.set(0), -3, x -> x.turn());
    told("turn", Desks::words, x -> x.turn(), -3, x -> x.set(0));
    told("clear", Desks::words, x -> x.clear(), -3, x -> x.set(0));
    told("undo", Desks::words, x -> x.undo(), -3, x -> x.set(0));
    told("column", one, x -> x.column(50, 2), -3, x -> x.turn());
    told("size", one, x -> x.size(1), -3, x -> x.clear());
    told("settings", one, x -> Check.settings(x, "set 0"), -3, x -> Check.settings(x, "turn"));
    told("undo", one, x -> x.size(1), -3, x -> x.undo());
  }

  static void promise43OfEachCallWithoutRoom() {
    Consumer<HeadFits> full = x -> {
      Desks.full(x);
      x.end(0);
      Check.write(x, "bars");
    };
    told("word", full, x -> x.word(7, 0, 0), -5, x -> x.worth(0, 0));
    told("law", full, x -> x.law(), -5, x -> x.force(0));
    told("say", full, x -> x.say(0), -5, x -> x.turn());
    told("set", full, x -> x.set(0), -5, x -> x.clear());
    told("seen", full, x -> x.seen(0, 0), -5, x -> x.undo());
    told("matter", full, x -> x.matter(1, 1, 1), -5, x -> x.image(0));
  }

  static void promise43OfEachCallThatReadsAText() {
    Consumer<HeadFits> none = Desks::untouched;
    told("word", none, x -> x.word(0, 0, 0), -6, x -> Check.word(x, "a", 0, 0, 0));
    told("law", none, x -> x.law(), -6, x -> Check.law(x, "bars"));
    told("settings", none, x -> x.settings(), -6, x -> Check.settings(x, "size 0"));
  }

  static void promise43NoneIsNoRefusal() {
    HeadFits x = new HeadFits();
    x.say(9);
    due("force answers NONE", x.force(-1), -1);
    due("status", x.status(), 0);
    x.say(9);
    due("beside answers NONE", x.beside(0, -1), -1);
    due("status", x.status(), 0);
  }

  static void promise43OtherCallsLetItBe() {
    HeadFits x = new HeadFits();
    Desks.busy(x);
    x.say(9);
    x.feed(0, 0, 0, 0, 0);
    x.end(0);
    x.at(0, 0);
    x.fault();
    x.stopped();
    x.hush();
    x.head(0, 0);
    x.line(0, 0);
    x.cost();
    x.fit(0);
    x.over();
    x.narrow();
    x.largest();
    x.truest(0);
    x.says(50, 0);
    x.forget();
    x.changed(-1);
    x.cancel();
    x.edition(0);
    x.drawn(0);
    x.count(0);
    due("status", x.status(), -1);
  }
}
