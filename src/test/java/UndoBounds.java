import java.util.function.Consumer;

/** Promise 25: undo. */
final class UndoBounds {
  private UndoBounds() {}

  private static void due(String call, long got, long want) {
    Check.due(call, got, want);
  }

  private static HeadFits withWords() {
    HeadFits x = new HeadFits();
    Desks.words(x);
    return x;
  }

  static void promise25NoneYet() {
    Bounds.refused("never any", Desks::words, x -> x.undo(), -3);
  }

  static void promise25NoneLeft() {
    Bounds.refused("all undone", x -> {
      Desks.words(x);
      x.set(0);
      x.turn();
      x.undo();
      x.undo();
    }, x -> x.undo(), -3);
  }

  static void promise25EachKind() {
    HeadFits x = withWords();
    x.set(0);
    x.turn();
    x.clear();
    due("kept", x.count(6), 3);
    due("clear", x.undo(), 2);
    due("words", x.count(2), 1);
    due("turn", x.undo(), 1);
    due("a turn can be again", x.turn(), 1);
    due("turn", x.undo(), 1);
    due("set", x.undo(), 0);
    due("set is no refusal", x.status(), 0);
    due("words", x.count(2), 0);
    due("no more", x.undo(), -3);
  }

  static void promise25SixteenAreKept() {
    HeadFits x = new HeadFits();
    Desks.fullHead(x);
    x.clear();
    for (int i = 0; i < 3; i++) x.set(1);
    due("sixteen", x.count(6), 16);
    int[] kinds = {0, 0, 0, 2, 0, 0, 0, 0, 0, 0, 0, 0, 0, 0, 0, 0};
    for (int kind : kinds) due("kind", x.undo(), kind);
    due("all are undone", x.count(2), 0);
    due("no more", x.undo(), -3);
  }

  static void promise25TheSeventeenthPushesOutTheOldest() {
    HeadFits x = new HeadFits();
    Desks.fullHead(x);
    x.clear();
    for (int i = 0; i < 4; i++) x.set(1);
    due("sixteen still", x.count(6), 16);
    for (int i = 0; i < 16; i++) x.undo();
    due("no more", x.undo(), -3);
    due("the first set stays", x.count(2), 1);
    due("its word", x.head(0, 0), 0);
  }

  // The room goes around several times, and is gone through backwards at each place.
  static void promise25TheRoomGoesAround() {
    for (int many = 1; many <= 40; many++) {
      HeadFits x = withWords();
      for (int i = 0; i < many; i++) {
        if (i % 2 == 0) x.set(i % 4 / 2);
        else x.clear();
      }
      due("kept of " + many, x.count(6), Math.min(16, many));
      for (int i = many - 1; i >= Math.max(0, many - 16); i--) {
        due("kind of " + i + " of " + many, x.undo(), i % 2 == 0 ? 0 : 2);
        due("words ahead of " + i + " of " + many, x.count(2), i % 2);
        if (i % 2 == 1) due("the word ahead of " + i, x.head(0, 0), (i - 1) % 4 / 2);
      }
      due("no more of " + many, x.undo(), -3);
    }
  }

  static void promise25LinesAreAsTheyWere() {
    HeadFits x = withWords();
    x.column(30, 4);
    for (int line = 0; line < 4; line++) {
      x.set(line % 2);
      if (line < 3) x.turn();
    }
    x.clear();
    due("clear", x.undo(), 2);
    for (int line = 0; line < 4; line++) {
      due("word " + line, x.head(line, 0), line % 2);
      due("line " + line, x.head(line, 1), line);
    }
    due("the last line stands", x.turn(), -3);
    due("set", x.undo(), 0);
    due("the line so far has none", x.turn(), -3);
    due("turn", x.undo(), 1);
    due("it can be again", x.turn(), 3);
  }

  static void promise25LinesAreAsTheyWereThoughOthersStoodThere() {
    HeadFits x = withWords();
    for (int word = 0; word < 3; word++) {
      x.set(word);
      x.turn();
    }
    x.clear();
    for (int i = 0; i < 3; i++) x.set(0);
    for (int i = 0; i < 4; i++) x.undo();
    for (int word = 0; word < 3; word++) {
      due("word " + word, x.head(word, 0), word);
      due("line " + word, x.head(word, 1), word);
    }
  }

  static void promise25BySettingsToo() {
    HeadFits x = withWords();
    x.set(0);
    due("run", Check.settings(x, "turn;set 1 times 2;clear"), 4);
    due("kept", x.count(6), 5);
    int[] kinds = {2, 0, 0, 1, 0};
    for (int kind : kinds) due("one by one", x.undo(), kind);
  }

  static void promise25SixteenOfSettings() {
    HeadFits x = withWords();
    x.set(1);
    Check.settings(x, "clear;" + "set 0 times 3;clear;".repeat(4) + "set 0");
    due("sixteen", x.count(6), 16);
    for (int i = 0; i < 16; i++) x.undo();
    due("no more", x.undo(), -3);
    due("the three oldest stay", x.count(2), 1);
    due("the third's word", x.head(0, 0), 0);
  }

  static void promise25SettingsThatStopLetItBe() {
    HeadFits x = withWords();
    x.set(0);
    x.turn();
    Check.settings(x, "set 0;" + "clear;set 1 times 3;".repeat(5) + "set 9");
    due("kept", x.count(6), 2);
    due("turn", x.undo(), 1);
    due("set", x.undo(), 0);
  }

  private static void endsIt(String call, Consumer<HeadFits> ending) {
    HeadFits x = withWords();
    x.set(0);
    x.clear();
    due("kept ahead of " + call, x.count(6), 2);
    ending.accept(x);
    due(call + " is granted", x.status(), 0);
    due("kept behind " + call, x.count(6), 0);
    due("undo behind " + call, x.undo(), -3);
    x.set(1);
    due("what comes behind " + call, x.undo(), 0);
    due("and no more", x.undo(), -3);
  }

  static void promise25NothingAheadOfAColumn() {
    endsIt("another column", x -> x.column(50, 2));
    endsIt("the same column", x -> x.column(100, 3));
  }

  static void promise25NothingAheadOfASize() {
    endsIt("another size", x -> x.size(1));
    endsIt("the same size", x -> x.size(0));
  }

  static void promise25NothingAheadOfASizeOfSettings() {
    endsIt("settings", x -> Check.settings(x, "size 2"));
    HeadFits x = withWords();
    x.set(0);
    Check.settings(x, "clear;size 0;set 1;set 1");
    due("kept", x.count(6), 2);
  }

  static void promise25NothingAheadOfABreadth() {
    endsIt("another breadth", x -> x.breadth(25, 3));
    endsIt("the same breadth", x -> x.breadth(26, 5));
    HeadFits x = withWords();
    x.set(0);
    x.breadth(0, 9);
    due("with words in the head, too", x.undo(), -3);
    due("the word stays", x.count(2), 1);
  }

  static void promise25WhatIsRefusedEndsNothing() {
    HeadFits x = withWords();
    x.set(0);
    x.turn();
    due("column by number", x.column(9, 1), -1);
    due("column by the head", x.column(50, 2), -3);
    due("size by number", x.size(3), -1);
    due("size by the head", x.size(1), -3);
    due("breadth", x.breadth(0, 21), -1);
    due("kept", x.count(6), 2);
    due("turn", x.undo(), 1);
  }

  static void promise25WhatIsRefusedIsNotKept() {
    HeadFits x = withWords();
    x.clear();
    x.turn();
    x.set(9);
    due("none", x.count(6), 0);
    x.set(3);
    x.set(3);
    due("one", x.count(6), 1);
  }

  static void promise25OtherCallsEndNothing() {
    HeadFits x = withWords();
    x.set(0);
    x.worth(0, 5);
    x.terms(0, 5);
    Check.word(x, "z", 5, 0, 0);
    Check.inForce(x, "bars");
    x.say(0);
    x.hush();
    x.beside(0, 0);
    x.seen(0, 5);
    x.forget();
    x.matter(1, 1, 1);
    x.cancel();
    x.readers(1, 1);
    x.image(0);
    due("kept", x.count(6), 1);
    due("set", x.undo(), 0);
  }

  static void promise25BarredWordsComeBackAllTheSame() {
    HeadFits x = withWords();
    x.set(1);
    x.clear();
    Check.inForce(x, "bars");
    due("clear", x.undo(), 2);
    due("the word stands", x.head(0, 0), 1);
  }

  static void promise25NothingBehindBack() {
    HeadFits x = withWords();
    x.set(0);
    x.image(0);
    x.set(0);
    x.back(0);
    due("kept", x.count(6), 0);
    due("undo", x.undo(), -3);
    due("the head stays", x.count(2), 1);
  }
}
