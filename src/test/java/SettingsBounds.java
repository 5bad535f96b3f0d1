import java.util.function.Consumer;

/** Promises 12 and 14: SETTINGS, and where they stopped. */
final class SettingsBounds {
  private SettingsBounds() {}

  private static void due(String call, long got, long want) {
    Check.due(call, got, want);
  }

  private static HeadFits withWords() {
    HeadFits x = new HeadFits();
    Desks.words(x);
    return x;
  }

  private static void run(HeadFits x, String text, int many) {
    due("settings " + text, Check.settings(x, text), many);
    due("stopped by " + text, x.stopped(), -1);
    due("status of " + text, x.status(), 0);
    due("the tape behind " + text, x.count(7), 0);
  }

  /** REFUSED at a CLAUSE: all but the TAPE, FAULT and where it stopped is as it was. */
  private static void stops(Consumer<HeadFits> before, String text, int why, int clause) {
    Consumer<HeadFits> written = x -> {
      before.accept(x);
      x.end(0);
      Check.write(x, text);
    };
    String[] but = {"fault", "stopped"};
    Bounds.refused(text, written, x -> x.settings(), why, x -> x.end(0), but);
    HeadFits x = new HeadFits();
    written.accept(x);
    x.settings();
    due("stopped by " + text, x.stopped(), clause);
    due("fault of " + text, x.fault(), -1);
  }

  // Promise 12: settings.

  static void promise12NoneIsRun() {
    HeadFits x = withWords();
    run(x, "turn if 1=2", 0);
    run(x, "set 0 times 20 if 1=2;clear if 1=2", 0);
    run(x, "set 0 if 1/0=1", 0);
    due("words", x.count(2), 0);
    due("nothing to undo", x.count(6), 0);
  }

  static void promise12AsManyAsCanBeRun() {
    HeadFits x = withWords();
    run(x, "size 1 times 20" + ";size 1 times 20".repeat(11), 240);
    due("size", x.count(18), 1);
  }

  static void promise12OnceWithoutTimes() {
    HeadFits x = withWords();
    run(x, "set 0", 1);
    run(x, "set 0 times 1", 1);
    due("words", x.count(2), 2);
  }

  static void promise12TwelveWordsByOneText() {
    HeadFits x = withWords();
    x.column(400, 1);
    run(x, "set 0 times 12", 12);
    due("words", x.count(2), 12);
  }

  static void promise12TheIfIsAskedEachTime() {
    HeadFits x = withWords();
    run(x, "set 0 times 20 if words<3", 3);
    run(x, "clear times 20 if words>0", 1);
    run(x, "set 0 times 5 if done<2 or done>3", 2);
  }

  static void promise12TheIfComesAheadOfTheSum() {
    HeadFits x = withWords();
    run(x, "set 1/0 if 1=2", 0);
    run(x, "set 99 if 1/0=1", 0);
    run(x, "size 1/[words-1] if words>1;set 0", 1);
  }

  static void promise12ABrokenSumCantBe() {
    stops(Desks::busy, "set 1/0", -3, 0);
    stops(Desks::busy, "set 1%[words-words]", -3, 0);
    stops(Desks::words, "size 1000*1000*1000*2", -3, 0);
    stops(Desks::words, "set 0;set 256*256*256*256", -3, 1);
    stops(Desks::words, "set 0-1000*1000*1000-1", -3, 0);
  }

  static void promise12AsSetIsRefused() {
    stops(Desks::words, "set 4", -3, 0);
    stops(Desks::words, "set 0-1", -3, 0);
    stops(Desks::words, "set 1000*1000*1000", -3, 0);
    stops(Desks::words, "set 3;set 0", -3, 1);
    stops(x -> {
      Desks.words(x);
      Check.inForce(x, "bars if word=1");
    }, "set 0;set 1", -3, 1);
  }

  static void promise12AsTurnIsRefused() {
    stops(Desks::words, "turn", -3, 0);
    stops(Desks::words, "set 0;turn;turn", -3, 2);
    stops(Desks::words, "set 0;turn;set 0;turn;set 0;turn", -3, 5);
    stops(Desks::words, "set 0;turn times 2", -3, 1);
  }

  static void promise12AsClearIsRefused() {
    stops(Desks::words, "clear", -3, 0);
    stops(Desks::busy, "clear;clear", -3, 1);
    stops(Desks::busy, "clear times 2", -3, 0);
  }

  static void promise12AsSizeIsRefused() {
    stops(Desks::words, "size 3", -3, 0);
    stops(Desks::words, "size 0-1", -3, 0);
    stops(Desks::busy, "size 1", -3, 0);
    stops(Desks::busy, "size 3", -3, 0);
    stops(Desks::words, "size 2;set 0;size 2", -3, 2);
  }

  static void promise12NoRoomForA13thWord() {
    stops(Desks::fullHead, "set 0", -5, 0);
    stops(x -> {
      Desks.words(x);
      x.column(400, 2);
    }, "set 0 times 13", -5, 0);
  }

  static void promise12NoSuchWordComesAheadOfNoRoom() {
    stops(Desks::fullHead, "set 4", -3, 0);
  }

  static void promise12WhatCantBeComesAheadOfNoRoom() {
    stops(x -> {
      Desks.fullHead(x);
      Check.inForce(x, "bars if word=1");
    }, "set 1", -3, 0);
    stops(x -> {
      Desks.words(x);
      x.column(175, 2);
      for (int i = 0; i < 12; i++) x.set(0);
    }, "set 0", -3, 0);
  }

  static void promise12TheFirstThatCantBeEndsIt() {
    stops(Desks::fullHead, "set 0;set 9", -5, 0);
    stops(Desks::fullHead, "set 9;set 0", -3, 0);
    stops(Desks::fullHead, "clear;size 3;set 0 times 13", -3, 1);
  }

  static void promise12ABadTextRunsNothing() {
    Consumer<HeadFits> written = x -> {
      Desks.busy(x);
      x.end(0);
      Check.write(x, "clear;size 2;set 0;");
    };
    Bounds.refused("a bad end", written, x -> x.settings(), -6, x -> x.end(0), "fault", "stopped");
  }

  static void promise12NoTextRunsNothing() {
    Consumer<HeadFits> written = x -> {
      Desks.busy(x);
      x.end(0);
    };
    Bounds.refused("no text", written, x -> x.settings(), -6, x -> x.end(0), "fault", "stopped");
  }

  static void promise12ABadTextComesAheadOfWhatCantBe() {
    HeadFits x = new HeadFits();
    due("no word, and a bad text", Check.settings(x, "set 0;turn turn"), -6);
    due("a refusal of one kind", x.count(10), 0);
    due("a refusal of one kind", x.count(12), 1);
  }

  static void promise12WhatWasDoneAheadOfTheStopIsTakenBack() {
    stops(Desks::busy, "clear;size 2;set 0;turn;set 2;turn;turn", -3, 6);
    stops(Desks::busy, "turn;set 2;set 0;clear;clear", -3, 4);
    stops(Desks::busy, "clear;set 2 times 3;turn times 2", -3, 2);
    stops(Desks::fullHead, "turn;clear;size 1;set 0 times 12;set 0", -5, 4);
  }

  static void promise12ACallIsCountedOnce() {
    HeadFits x = withWords();
    Check.settings(x, "set 0;set 9");
    due("by -3", x.count(10), 1);
    due("by -2", x.count(9), 0);
    Check.settings(x, "size 3");
    due("by -3", x.count(10), 2);
    due("by -1", x.count(8), 0);
  }

  static void promise12WordsFrom0To12() {
    HeadFits x = withWords();
    x.column(400, 4);
    run(x, "set 0 if words=0", 1);
    run(x, "set 0 times 11 if words>0", 11);
    run(x, "turn if words=12", 1);
  }

  static void promise12LinesFrom0To3() {
    HeadFits x = withWords();
    x.column(20, 4);
    for (int line = 0; line < 4; line++) {
      run(x, "set 0 if line=" + line, 1);
      if (line < 3) run(x, "turn", 1);
    }
    due("the last line", x.head(3, 1), 3);
  }

  static void promise12LeftIsTheColumnWhereNoneStands() {
    HeadFits x = withWords();
    run(x, "set 0 if left=100", 1);
    run(x, "turn if left=90", 1);
    run(x, "set 3 if left=100", 1);
    x.turn();
    x.breadth(3, 20);
    run(x, "set 0 if left=100", 1);
  }

  static void promise12LeftIs0OrBelow() {
    HeadFits x = withWords();
    x.column(90, 2);
    x.set(3);
    run(x, "turn if left=0", 1);
    x.undo();
    x.breadth(3, 11);
    run(x, "turn if left=0-9", 1);
  }

  static void promise12DoneCountsWhatWasRun() {
    HeadFits x = withWords();
    run(x, "set 0 if done=0;set 0 if done=0;set 0 if done=1;clear if done=2", 3);
    run(x, "set done;set done;set done;clear", 4);
    run(x, "size 0 times 20;set 0 if done=20", 21);
  }

  static void promise12SizeFrom0To2() {
    HeadFits x = withWords();
    run(x, "size 2 if size=0;size 1 if size=2;size 0 if size=1", 3);
    due("size", x.count(18), 0);
  }

  static void promise12BroadAndSenseOfTheLastWord() {
    HeadFits x = new HeadFits();
    for (int i = 0; i < 16; i++) Check.word(x, i == 15 ? "ab" : "a", i / 2, 0, 0);
    run(x, "set 0 if broad 15=20 and sense 15=7 and broad 0=10 and sense 0=0", 1);
  }

  static void promise12BroadAndSenseOfNoSuchWord() {
    HeadFits x = withWords();
    run(x, "set 0 if broad 4=0-1 and sense 4=0-1", 1);
    run(x, "set 0 if broad 15=0-1 and sense 15=0-1", 1);
    run(x, "set 0 if broad 3=90 and sense 3=3", 1);
    HeadFits y = new HeadFits();
    run(y, "size 1 if broad 0=0-1 and sense 0=0-1", 1);
  }

  // Promise 14: stopped.

  static void promise14NoneAheadOfAny() {
    HeadFits x = new HeadFits();
    due("at first", x.stopped(), -1);
    x.turn();
    due("a turn of its own is none", x.stopped(), -1);
  }

  static void promise14TheFirstAndTheLastClause() {
    HeadFits x = withWords();
    Check.settings(x, "turn" + ";size 0".repeat(11));
    due("the first", x.stopped(), 0);
    Check.settings(x, "size 0;".repeat(11) + "turn");
    due("the last", x.stopped(), 11);
  }

  static void promise14NoneBehindOnesThatWereRun() {
    HeadFits x = withWords();
    Check.settings(x, "size 0;turn");
    due("stopped", x.stopped(), 1);
    Check.settings(x, "size 0");
    due("run", x.stopped(), -1);
    Check.settings(x, "turn");
    Check.settings(x, "turn if 1=2");
    due("none was run", x.stopped(), -1);
  }

  static void promise14NoneBehindABadText() {
    HeadFits x = withWords();
    Check.settings(x, "size 0;turn");
    due("bad", Check.settings(x, "size 0;size"), -6);
    due("none could not be", x.stopped(), -1);
  }

  static void promise14OtherCallsLetItBe() {
    HeadFits x = withWords();
    x.image(0);
    Check.settings(x, "size 0;size 0;turn");
    Check.law(x, "bars");
    Check.law(x, "bars bars");
    x.turn();
    x.set(0);
    x.undo();
    x.back(0);
    due("stopped", x.stopped(), 2);
  }

  static void promise14ByNoRoomToo() {
    HeadFits x = new HeadFits();
    Desks.fullHead(x);
    due("no room", Check.settings(x, "turn;set 0"), -5);
    due("stopped", x.stopped(), 1);
  }
}
