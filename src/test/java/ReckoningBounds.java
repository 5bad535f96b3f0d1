/** Promises 10 and 23: what the LAW in FORCE says of a WORD and of a LINE, when it is BROKEN. */
final class ReckoningBounds {
  // What the WORD LOSES where no "loses" HOLDS.
  private static final int LOSS = 77;
  private static final String BILLION = "1000*1000*1000";

  private ReckoningBounds() {}

  private static void due(String call, long got, long want) {
    Check.due(call, got, want);
  }

  private static HeadFits oneWord() {
    HeadFits x = new HeadFits();
    Check.word(x, "fox", 3, LOSS, 7);
    return x;
  }

  private static void loses(String sum, int want) {
    HeadFits x = oneWord();
    Check.inForce(x, "loses " + sum);
    due("loses " + sum, x.at(0, 6), want);
  }

  private static void broken(String sum) {
    loses(sum, LOSS);
  }

  /** A TEST that is so bars the WORD; one that is not so bars it with "not" ahead of it. */
  private static void test(String test, boolean so) {
    HeadFits x = oneWord();
    Check.inForce(x, "bars if " + test);
    due("bars if " + test, x.at(0, 7), so ? 1 : 0);
    Check.inForce(x, "bars if not (" + test + ")");
    due("bars if not " + test, x.at(0, 7), so ? 0 : 1);
  }

  /** A BROKEN TEST does not bar, and it does not with "not" ahead of it. */
  private static void brokenTest(String test) {
    HeadFits x = oneWord();
    Check.inForce(x, "bars if " + test);
    due("bars if " + test, x.at(0, 7), 0);
    Check.inForce(x, "bars if not (" + test + ")");
    due("bars if not " + test, x.at(0, 7), 0);
  }

  /** What a LINE COSTS that has 70 hairs left. */
  private static void costs(String sum, int want) {
    HeadFits x = oneWord();
    x.set(0);
    Check.inForce(x, "costs " + sum);
    due("costs " + sum, x.line(0, 2), want);
  }

  static void promise10ABillionIsWhole() {
    loses(BILLION + "/1000/1000", 999);
    loses(BILLION + "-" + BILLION + "+5", 5);
    loses("[999*1000*1000+999*1000+1000]/1000/1000/2", 500);
  }

  static void promise10BeyondABillionIsBroken() {
    broken(BILLION + "+1");
    broken("[" + BILLION + "+1]-" + BILLION);
    broken(BILLION + "+1-" + BILLION);
    broken("[1000+1]*1000*1000/1000/1000");
  }

  static void promise10ABillionBelowIsWhole() {
    loses("[0-" + BILLION + "]/[0-1000]/1000/2", 500);
    loses("0-" + BILLION, 0);
    loses("[0-1]*" + BILLION + "+" + BILLION + "+4", 4);
  }

  static void promise10BeyondABillionBelowIsBroken() {
    broken("0-" + BILLION + "-1");
    broken("[0-" + BILLION + "-1]+" + BILLION);
    broken("0-[" + BILLION + "/2]*3");
  }

  // In 32 bits these would come out small.
  static void promise10ProductsDoNotWrapAround() {
    broken("256*256*256*256+5");
    broken("[256*256*256*256]/1000");
    broken("[" + BILLION + "]*[" + BILLION + "]");
    broken("[" + BILLION + "]*[0-" + BILLION + "]");
    broken("[0-" + BILLION + "]*[0-" + BILLION + "]");
    broken("[" + BILLION + "]+[" + BILLION + "]+[" + BILLION + "]+[" + BILLION + "]+294");
  }

  static void promise10DividedByNoughtIsBroken() {
    broken("1/0");
    broken("0/0");
    broken("1%0");
    broken("0%0");
    broken("5/[3-3]");
    broken("5%[3-3]");
    broken("0*[1/0]");
    broken("[1/0]*0");
    broken("1/0/0");
  }

  static void promise10NoughtIsDivided() {
    loses("0/5+3", 3);
    loses("0%5+3", 3);
  }

  static void promise10QuotientsAreCutTowardsNought() {
    loses("7/2", 3);
    loses("[0-7]/2+10", 7);
    loses("7/[0-2]+10", 7);
    loses("[0-7]/[0-2]", 3);
    loses("[0-1]/2+10", 10);
    loses("1/2", 0);
    loses("999/1000", 0);
    loses("1000/999", 1);
  }

  static void promise10RestsAreWhatIsLeftThen() {
    loses("7%2", 1);
    loses("[0-7]%2+10", 9);
    loses("7%[0-2]+10", 11);
    loses("[0-7]%[0-2]+10", 9);
    loses("6%3+10", 10);
    loses("5%1000", 5);
    loses("1000%1+4", 4);
  }

  static void promise10BothSidesOfATestAreAsked() {
    brokenTest("1/0=1");
    brokenTest("1=1/0");
    brokenTest("1/0<1");
    brokenTest("1>1%0");
    brokenTest("1/0=1/0");
    brokenTest(BILLION + "<" + BILLION + "+1");
    test(BILLION + "=" + BILLION, true);
    test("0-" + BILLION + "<" + BILLION, true);
  }

  static void promise10OrAsksNoMoreOnceItIsSo() {
    test("1=1 or 1/0=1", true);
    test("1=2 or 1=1 or 1/0=1", true);
    test("1=1 or 1/0=1 and 1/0=1", true);
    brokenTest("1=2 or 1/0=1");
    brokenTest("1=2 or 1/0=1 or 1=1");
  }

  static void promise10AndAsksNoMoreOnceItIsNotSo() {
    test("1=2 and 1/0=1", false);
    test("1=1 and 1=2 and 1/0=1", false);
    test("1=2 and 1/0=1 or 1=1", true);
    test("1=2 and (1/0=1 or 1=1)", false);
    brokenTest("1=1 and 1/0=1");
    brokenTest("1=1 and 1/0=1 and 1=2");
  }

  static void promise10WhatStandsAheadIsAlwaysAsked() {
    brokenTest("1/0=1 or 1=1");
    brokenTest("1/0=1 and 1=2");
    brokenTest("(1/0=1 or 1=1) and 1=1");
    brokenTest("not 1/0=1 or 1=1");
  }

  static void promise10EqualIsNeitherLessNorMore() {
    test("2<2", false);
    test("2>2", false);
    test("2=2", true);
    test("1<2", true);
    test("2<1", false);
    test("2>1", true);
    test("1>2", false);
    test("1=2", false);
  }

  static void promise10ItLoses999AtMost() {
    loses("998", 998);
    loses("999", 999);
    loses("1000", 999);
    loses(BILLION, 999);
  }

  static void promise10ItLoses0AtLeast() {
    loses("1", 1);
    loses("0", 0);
    loses("0-1", 0);
    loses("0-" + BILLION, 0);
  }

  static void promise10TheLastThatHoldsTells() {
    loses("1;loses 2", 2);
    loses("1;loses 2 if 1=2", 1);
    loses("1;loses 2 if 1/0=1", 1);
    loses("1;loses 2/0", 1);
    loses("1;loses 2/0 if 1=1", 1);
    loses("1;loses 2 if 1=1;costs 3;bars", 2);
  }

  static void promise10ItsLossIfNoneHolds() {
    broken("1 if 1=2");
    broken("1 if 1/0=1");
    broken("1/0 if 1=1");
    broken("1/0;loses 2%0;loses 3 if 1>1");
    loses("1 if 1=1", 1);
    HeadFits x = oneWord();
    Check.inForce(x, "costs 3");
    due("a law without loses", x.at(0, 6), LOSS);
  }

  static void promise10BarsHoldOnceIsEnough() {
    HeadFits x = oneWord();
    Check.inForce(x, "bars");
    due("without a test", x.at(0, 7), 1);
    Check.inForce(x, "bars if 1=1;bars if 1=2");
    due("the first", x.at(0, 7), 1);
    Check.inForce(x, "bars if 1=2;bars if 1=1");
    due("the last", x.at(0, 7), 1);
    Check.inForce(x, "bars if 1/0=1;bars if 1=2");
    due("none", x.at(0, 7), 0);
    Check.inForce(x, "loses 1;costs 1");
    due("no bars", x.at(0, 7), 0);
    x.force(-1);
    due("no law", x.at(0, 7), 0);
  }

  static void promise10NothingOfALineIsToldOfAWord() {
    for (String word : new String[] {"line", "white", "many", "alike", "echo"}) {
      loses(word + "+10", 9);
      test(word + "=0-1", true);
    }
  }

  static void promise10TheLeastAndTheMostOfAWord() {
    HeadFits y = new HeadFits();
    for (int i = 0; i < 16; i++) Check.word(y, i == 15 ? "abcdefghi" : "a", i / 2, 99, 10);
    y.terms(0, 999);
    y.terms(1, 9);
    y.size(2);
    String[] words = {"word", "sense", "loss", "truth", "length", "size"};
    int[] least = {0, 0, 99, 10, 1, 2};
    int[] most = {15, 7, 99, 10, 9, 2};
    for (int i = 0; i < words.length; i++) {
      y.image(0);
      Check.inForce(y, "loses " + words[i]);
      due("the first word's " + words[i], y.at(0, 6), least[i]);
      due("the last word's " + words[i], y.at(15, 6), most[i]);
      y.back(0);
    }
    Check.inForce(y, "loses day");
    due("the last day", y.at(0, 6), 999);
    Check.inForce(y, "loses mood");
    due("the last mood", y.at(0, 6), 9);
  }

  // Promise 23: what a LINE COSTS.

  static void promise23ALineCosts999AtMost() {
    costs("999", 999);
    costs("1000", 999);
    costs(BILLION, 999);
    costs("white*1000", 999);
  }

  static void promise23ALineCosts0AtLeast() {
    costs("0", 0);
    costs("0-1", 0);
    costs("0-" + BILLION, 0);
  }

  static void promise23WhiteIfNoneHolds() {
    costs("5 if 1=2", 70);
    costs("5/0", 70);
    costs("5 if 1/0=1", 70);
    costs(BILLION + "+1", 70);
    HeadFits x = oneWord();
    x.set(0);
    due("no law", x.line(0, 2), 70);
    Check.inForce(x, "loses 5");
    due("a law without costs", x.line(0, 2), 70);
  }

  static void promise23TheLastThatHoldsTells() {
    costs("1;costs 2", 2);
    costs("1;costs 2 if 1=2", 1);
    costs("1;costs 2/0;costs 3 if 1%0=1", 1);
  }

  static void promise23NothingOfAWordIsToldOfALine() {
    for (String word : new String[] {"word", "sense", "loss", "truth", "length"}) {
      costs(word + "+10", 9);
    }
  }

  /** Three LINES, the second ALIKE; as many hairs are left in them as a blank has. */
  private static HeadFits threeLines() {
    HeadFits x = new HeadFits();
    Check.word(x, "abc", 0, 0, 0);
    Check.word(x, "acb", 0, 0, 0);
    Check.word(x, "cab", 0, 0, 0);
    x.column(30, 3);
    for (int word = 0; word < 3; word++) {
      x.set(word);
      x.turn();
    }
    return x;
  }

  static void promise23TwentyMoreIfAlike() {
    HeadFits x = threeLines();
    due("the first line has none above", x.line(0, 2), 0);
    due("the second", x.line(1, 2), 20);
    due("the third begins in another way", x.line(2, 2), 0);
  }

  static void promise23WhiteIs0AtLeast() {
    HeadFits x = threeLines();
    x.breadth(2, 11);
    due("one hair too broad", x.line(0, 0), 31);
    due("it costs nothing", x.line(0, 2), 0);
    due("it is alike still", x.line(1, 2), 20);
    x.breadth(2, 9);
    due("one hair left", x.line(0, 2), 1);
    due("one hair left, and alike", x.line(1, 2), 21);
  }

  static void promise23WhiteIsBelow0ForALawIfTooBroad() {
    HeadFits x = threeLines();
    Check.inForce(x, "costs white+100");
    x.breadth(2, 12);
    due("two hairs too broad", x.line(0, 2), 98);
    x.breadth(2, 10);
    due("none left", x.line(0, 2), 100);
  }

  static void promise23ALawAddsNothingIfAlike() {
    HeadFits x = threeLines();
    Check.inForce(x, "costs 990");
    due("it tells all", x.line(1, 2), 990);
    Check.inForce(x, "costs 0-5");
    due("the nearest", x.line(1, 2), 0);
    Check.inForce(x, "costs 3 if line=0;costs 4 if line=2");
    due("where one holds", x.line(0, 2), 3);
    due("where none holds", x.line(1, 2), 20);
    due("where another holds", x.line(2, 2), 4);
  }

  static void promise23AlikeIs0Or1ForALaw() {
    HeadFits x = threeLines();
    Check.inForce(x, "costs 10+alike");
    due("the first", x.line(0, 2), 10);
    due("alike", x.line(1, 2), 11);
    due("not alike", x.line(2, 2), 10);
  }

  static void promise23EchoIs0Or1ForALaw() {
    HeadFits x = threeLines();
    x.beside(0, 0);
    x.beside(1, 2);
    Check.inForce(x, "costs 10+echo");
    due("the word itself", x.line(0, 2), 11);
    due("a word of another line", x.line(1, 2), 10);
    due("none next door", x.line(2, 2), 10);
  }

  // Each is asked first behind the change, when nothing has been asked of a WORD since.
  static void promise23SizeDayAndMoodAreToldOfALineToo() {
    HeadFits x = new HeadFits();
    Desks.words(x);
    x.size(2);
    Check.inForce(x, "costs day+mood*100+size*10");
    x.set(0);
    x.terms(0, 5);
    due("day", x.line(0, 2), 25);
    x.terms(1, 9);
    due("mood", x.line(0, 2), 925);
    Check.settings(x, "turn if left=0");
    due("behind settings that asked", x.line(0, 2), 925);
  }

  static void promise23NoWordsCostNothing() {
    HeadFits x = oneWord();
    Check.inForce(x, "costs 500");
    for (int line = 0; line < 4; line++) due("line " + line, x.line(line, 2), 0);
    x.set(0);
    x.turn();
    due("the line that has one", x.line(0, 2), 500);
    due("the line that was turned to", x.line(1, 2), 0);
  }

  static void promise23TheFirstAndTheLastLine() {
    HeadFits x = new HeadFits();
    Desks.words(x);
    x.column(100, 4);
    Check.inForce(x, "costs line*10+many");
    for (int line = 0; line < 4; line++) {
      x.set(0);
      if (line == 3) x.set(0);
      x.turn();
    }
    int[] want = {1, 11, 21, 32};
    for (int line = 0; line < 4; line++) due("line " + line, x.line(line, 2), want[line]);
  }
}
