import java.util.function.Consumer;

/** Promises 11 and 13: LAWS, and where the FAULT of a TEXT is. */
final class TextBounds {
  private static final int GOOD = -1;

  private TextBounds() {}

  private static void due(String call, long got, long want) {
    Check.due(call, got, want);
  }

  private static void law(String text, int fault) {
    HeadFits x = new HeadFits();
    due("law " + text, Check.law(x, text), fault == GOOD ? 0 : -6);
    due("fault of " + text, x.fault(), fault);
    due("laws behind " + text, x.count(5), fault == GOOD ? 1 : 0);
    due("the tape behind " + text, x.count(7), 0);
  }

  // What can be read as SETTINGS is not always run to the end, so -3 is good here.
  private static void settings(String text, int fault) {
    HeadFits x = new HeadFits();
    due("settings " + text, Check.settings(x, text) == -6 ? 1 : 0, fault == GOOD ? 0 : 1);
    due("fault of " + text, x.fault(), fault);
    due("the tape behind " + text, x.count(7), 0);
  }

  /** Both languages have it: as a SUM. */
  private static void sum(String text, int fault) {
    law("loses " + text, fault == GOOD ? GOOD : fault + 6);
    law("costs " + text, fault == GOOD ? GOOD : fault + 6);
    settings("set " + text, fault == GOOD ? GOOD : fault + 4);
    settings("size " + text, fault == GOOD ? GOOD : fault + 5);
  }

  /** Both languages have it: as a TEST. */
  private static void test(String text, int fault) {
    law("bars if " + text, fault == GOOD ? GOOD : fault + 8);
    settings("turn if " + text, fault == GOOD ? GOOD : fault + 8);
  }

  private static String many(String text, int times) {
    return text.repeat(times);
  }

  private static void sixLaws(HeadFits x) {
    for (int i = 0; i < 6; i++) Check.law(x, "loses " + i);
  }

  private static Consumer<HeadFits> with(Consumer<HeadFits> before, String text) {
    return x -> {
      before.accept(x);
      x.end(0);
      Check.write(x, text);
    };
  }

  // Promise 11: law.

  static void promise11SixLawsAtMost() {
    HeadFits x = new HeadFits();
    for (int i = 0; i < 6; i++) due("law " + i, Check.law(x, "loses " + i), i);
    due("the seventh", Check.law(x, "bars"), -5);
    due("laws", x.count(5), 6);
  }

  static void promise11NoRoomEmptiesTheTapeAndNoMore() {
    Bounds.refused("a seventh", with(Desks::full, "bars"), x -> x.law(), -5, x -> x.end(0));
  }

  static void promise11NoRoomComesAheadOfReading() {
    Bounds.refused("a bad text", with(Desks::full, "bars 1 2"), x -> x.law(), -5, x -> x.end(0));
    Bounds.refused("no text", with(Desks::full, ""), x -> x.law(), -5, x -> x.end(0));
    HeadFits y = new HeadFits();
    sixLaws(y);
    due("no law, no fault", Check.law(y, "bars bars"), -5);
    due("it was not read", y.fault(), -1);
  }

  static void promise11ABadTextEmptiesTheTapeAndNoMore() {
    Bounds.refused("a bad end", with(Desks::busy, "bars;bars;"), x -> x.law(), -6,
        x -> x.end(0), "fault");
    Bounds.refused("no text", with(Desks::busy, ""), x -> x.law(), -6, x -> x.end(0), "fault");
  }

  static void promise11BadTextsTakeNoRoom() {
    HeadFits x = new HeadFits();
    for (int i = 0; i < 9; i++) due("a bad text", Check.law(x, "bars bars"), -6);
    for (int i = 0; i < 6; i++) due("law " + i, Check.law(x, "bars"), i);
  }

  static void promise11ALawOf400Bytes() {
    law("bars" + many(" ", 396), GOOD);
    law(many(" ", 396) + "bars", GOOD);
    law("bars if " + many("not ", 97) + "2=1 ", GOOD);
    law("bars" + many(" ", 395) + "!", 399);
  }

  // As many NUMBERS as may be, and each of them as long as the TAPE lets it be.
  static void promise11ALawOf400BytesWithAllItsParts() {
    StringBuilder text = new StringBuilder("loses");
    for (int i = 0; i < 50; i++) text.append(i == 0 ? " " : "+").append("000009");
    for (int i = text.length(); i < 400; i++) text.append(' ');
    HeadFits x = new HeadFits();
    Check.word(x, "a", 0, 0, 0);
    Check.inForce(x, text.toString());
    due("fifty nines", x.at(0, 6), 450);
  }

  static void promise11ALawIsNotInForceByItself() {
    HeadFits x = new HeadFits();
    Check.word(x, "a", 0, 1, 0);
    Check.law(x, "loses 5");
    due("none is", x.count(13), -1);
    due("it loses", x.at(0, 6), 1);
  }

  // Promise 13: where the FAULT is.

  static void promise13NoTextHasItsFaultAtItsEnd() {
    law("", 0);
    settings("", 0);
  }

  static void promise13BlanksAloneHaveTheirFaultAtTheEnd() {
    for (int many : new int[] {1, 2, 19, 20, 21, 399, 400}) {
      law(many(" ", many), many);
      settings(many(" ", many), many);
    }
  }

  static void promise13TheEndsFaultIsTheTextsLength() {
    law("loses", 5);
    law("loses   ", 8);
    law("loses 1+", 8);
    law("loses 1+  ", 10);
    law("bars;", 5);
    law("bars ; ", 7);
    law("bars if", 7);
    law("bars if (1=1 ", 13);
    settings("set", 3);
    settings("turn times ", 11);
    settings("set broad  ", 11);
    law("loses" + many(" ", 395), 400);
  }

  /**
   * A TEXT is cut off behind each TOKEN in turn. Where it may end, "|" stands behind the TOKEN;
   * where it may not, neither its end nor ";" can go on.
   */
  private static void cutOff(boolean forLaw, String tokens) {
    StringBuilder text = new StringBuilder();
    for (String token : tokens.split(" ")) {
      boolean may = token.endsWith("|");
      text.append(text.length() == 0 ? "" : " ").append(token.replace("|", ""));
      cutOffAt(forLaw, text.toString(), may ? GOOD : text.length());
      cutOffAt(forLaw, text + "  ", may ? GOOD : text.length() + 2);
      cutOffAt(forLaw, text + ";", text.length() + (may ? 1 : 0));
      cutOffAt(forLaw, text + " ?", text.length() + 1);
    }
  }

  private static void cutOffAt(boolean forLaw, String text, int fault) {
    if (forLaw) law(text, fault);
    else settings(text, fault);
  }

  static void promise13ALawThatIsCutOff() {
    cutOff(true, "loses [ 1 + word ]| * 2| - 3| / 4| % [ [ 5 ] ]| if 1 < 2|");
    cutOff(true, "costs white| if not ( 1 < 2 or 2 > 1 and not 3 = 3 )| and 1 = 1| or 2 = 2|");
    cutOff(true, "bars| if ( ( [ 1 ] = [ 2 ] ) )| ; bars| ; loses 1| ; bars| if 1 = 1|");
  }

  static void promise13SettingsThatAreCutOff() {
    cutOff(false, "set broad 3| + sense 4| * [ 2 ]| times 3| if words < 4| + 1|");
    cutOff(false, "turn| times 3| if left > 2| ; clear| ; size 1| if not done = 0|");
  }

  static void promise13TwelveClausesAtMost() {
    law(many("bars;", 11) + "bars", GOOD);
    law(many("bars;", 12) + "bars", 60);
    settings(many("turn;", 11) + "turn", GOOD);
    settings(many("turn;", 12) + "turn", 60);
  }

  static void promise13AtThe13thClausesFirstToken() {
    law(many("bars;", 12) + "   bars", 63);
    law(many("bars;", 12), 60);
    law(many("bars;", 12) + "  ", 62);
    law(many("bars;", 12) + "?", 60);
    law(many("bars ; ", 12) + "bars", 84);
    law(many("bars;", 11) + "bars bars", 60);
    law(many("bars;", 11) + "loses", 60);
  }

  static void promise13NumbersAreTo1000() {
    sum("0", GOOD);
    sum("1000", GOOD);
    sum("1001", 0);
    sum("1+1001", 2);
    test("1000=1000", GOOD);
    test("1=1001", 2);
  }

  static void promise13NoughtsAheadDoNotCount() {
    sum("0001000", GOOD);
    sum("0001001", 0);
    sum(many("0", 300) + "7", GOOD);
  }

  // By wrapping around at 32 or 64 bits each of these would be a small number.
  static void promise13NumbersDoNotWrapAround() {
    sum("4294967297", 0);
    sum("18446744073709551617", 0);
    sum("2147483648", 0);
    sum("10000000000000000000000000000000000000000", 0);
    sum("1" + many("0", 390), 0);
    settings("turn times 4294967297", 11);
    settings("set broad 4294967296", 10);
  }

  static void promise13FiftyPartsAtMost() {
    sum(many("1+", 49) + "1", GOOD);
    sum(many("1+", 50) + "1", 100);
    sum(many("size+", 49) + "size", GOOD);
    sum(many("size+", 50) + "size", 250);
    sum(many("1+size*", 25) + "1", 175);
  }

  static void promise13PartsAreCountedOverAllClauses() {
    String half = "1" + many("+1", 24);
    law("loses " + half + ";costs " + half, GOOD);
    law("loses " + half + ";costs " + half + "+1", 112);
    law("loses " + half + ";costs " + half + ";loses 1", 118);
    law("loses " + half + ";costs " + half + ";bars", GOOD);
    settings("set " + half + ";size " + half, GOOD);
    settings("set " + half + ";size " + half + ";set 1", 113);
  }

  static void promise13PartsOfATestCountToo() {
    law("loses " + many("1+", 47) + "1 if 1=1", GOOD);
    law("loses " + many("1+", 47) + "1 if 1+1=1", 109);
    law("bars if " + many("1=1 and ", 25) + "1=1", 208);
    law("bars if " + many("1=1 and ", 24) + "1=1", GOOD);
  }

  // What was counted of one TEXT must not be left for the next one, be it good or bad.
  static void promise13EachTextHasItsOwnParts() {
    HeadFits x = new HeadFits();
    for (int i = 0; i < 6; i++) {
      due("settings " + i, Check.settings(x, "size 0*[" + many("1+", 48) + "1]"), 1);
      due("a bad text " + i, Check.settings(x, "size " + many("1*", 49) + "1 1"), -6);
      due("law " + i, Check.law(x, "loses " + many("1+", 49) + "1"), i);
    }
  }

  static void promise13EachTextHasItsOwnClauses() {
    HeadFits x = new HeadFits();
    for (int i = 0; i < 6; i++) {
      due("law " + i, Check.law(x, many("bars;", 11) + "bars"), i);
      due("settings " + i, Check.settings(x, many("size 0;", 11) + "size 0"), 12);
    }
  }

  static void promise13EachTextHasItsOwnBrackets() {
    HeadFits x = new HeadFits();
    for (int i = 0; i < 6; i++) {
      due("a bad text " + i, Check.law(x, "loses " + many("[", 8)), -6);
      due("law " + i, Check.law(x, "loses " + many("[", 8) + "1" + many("]", 8)), i);
    }
  }

  static void promise13BracketsAreNoParts() {
    sum(many("[1]+", 49) + "[1]", GOOD);
    sum(many("[1]+", 50) + "[1]", 201);
    sum(many("1+", 49) + "[[[1]]]", GOOD);
    sum(many("1+", 50) + "[[[1]]]", 103);
  }

  static void promise13TimesAndWAreNoParts() {
    settings("set " + many("1+", 49) + "1 times 2", GOOD);
    settings("set " + many("1+", 48) + "broad 3+sense 4 times 20", GOOD);
    settings("set " + many("1+", 49) + "broad 3+1", 110);
    settings("set " + many("1+", 50) + "broad 16", 104);
    settings(many("turn times 9;", 11) + "set " + many("1+", 49) + "1", GOOD);
  }

  static void promise13EightBracketsWithinOneAnother() {
    sum(many("[", 8) + "1" + many("]", 8), GOOD);
    sum(many("[", 9) + "1" + many("]", 9), 8);
    test(many("(", 8) + "1=1" + many(")", 8), GOOD);
    test(many("(", 9) + "1=1" + many(")", 9), 8);
  }

  static void promise13BracketsOfBothKindsCountTogether() {
    test("((((" + "[[[[1]]]]=1))))", GOOD);
    test("((((" + "[[[[[1]]]]]=1))))", 8);
    test("(((((((1=[1])))))))", GOOD);
    test("((((((((1=[1]))))))))", 10);
    test("(((((((([1]=1))))))))", 8);
  }

  static void promise13BracketsBesideOneAnotherDoNotCount() {
    sum(many("[1]+", 40) + "1", GOOD);
    sum("[[[[[[[[1]]]]]]]]+[[[[[[[[1]]]]]]]]", GOOD);
    sum("[[[[[[[[1]]]]]]]+[[[[[[[[1]]]]]]]]", 24);
    test(many("(1=1) and ", 20) + "(((((((([1])=1", 28 + 180);
    test("((((((((1=1)))))))) or ((((((((1=1))))))))", GOOD);
  }

  static void promise13NotsAreNotBounded() {
    test(many("not ", 90) + "1=1", GOOD);
    test(many("not(", 8) + "1=1" + many(")", 8), GOOD);
    test(many("not(", 9) + "1=1" + many(")", 9), 35);
  }

  static void promise13TokensAreLongestRows() {
    law("loses1000", GOOD);
    law("loses10001", 5);
    law("loses 10 00", 9);
    law("losess 1", 0);
    law("lose s 1", 0);
    law("barsif 1=1", 0);
    law("bars if1=1", GOOD);
    law("loses1if1=1", GOOD);
    law("loses 1word", 7);
    law("loses word1", 10);
    settings("set1times2if1=1", GOOD);
    settings("turntimes2", 0);
  }

  static void promise13OtherBytesAreTokensOfTheirOwn() {
    test("1<=1", 2);
    test("1==1", 2);
    test("1=>1", 2);
    sum("1--1", 2);
    sum("1**1", 2);
    sum("-1", 0);
    law("bars;;bars", 5);
    law(";bars", 0);
    law("Bars", 0);
    law("bArs", 0);
    law("barS", 0);
  }

  static void promise13OnlyByte32IsABlank() {
    for (int other : new int[] {0, 9, 10, 13, 31, 33, 127, 128, 160, 255}) {
      law("bars" + (char) other + "if 1=1", 4);
      settings("turn " + (char) other, 5);
      law((char) other + "bars", 0);
    }
    law("  bars  if  1  =  1  ", GOOD);
  }

  static void promise13ASumIsNoTestAndNoTestASum() {
    test("1", 1);
    test("(1)=1", 2);
    test("[1=1]", 2);
    test("1=1=1", 3);
    sum("(1)", 0);
    sum("[1)", 2);
    sum("1]", 1);
    sum("[]", 1);
    test("()", 1);
    test("(1=1]", 4);
    test("not", 3);
    test("1=1 and", 7);
    test("1=1 or", 6);
    test("(", 1);
    test("1=", 2);
    sum("1*", 2);
    sum("[", 1);
    test("or 1=1", 0);
    sum("1<2", 1);
  }

  static void promise13EachLanguageHasItsOwnWords() {
    law("loses word+sense+loss+truth+length+line+white+many+alike+echo+size+day+mood", GOOD);
    settings("set words+line+left+done+size+broad 0+sense 15", GOOD);
    for (String word : new String[] {"words", "left", "done", "broad", "times", "set", "turn"}) {
      law("loses " + word, 6);
      law(word, 0);
    }
    for (String word : new String[] {"word", "loss", "truth", "length", "white", "many", "alike",
        "echo", "day", "mood", "loses", "costs", "bars", "if", "not", "and"}) {
      settings("set " + word, 4);
      settings(word, 0);
    }
    law("loses sense 1", 12);
    law("bars times 2", 5);
  }

  static void promise13TimesAreFrom1To20() {
    settings("turn times 1", GOOD);
    settings("turn times 20", GOOD);
    settings("turn times 0", 11);
    settings("turn times 21", 11);
    settings("turn times 0020", GOOD);
    settings("turn times 1000", 11);
    settings("turn times 1+1", 12);
    settings("turn times [1]", 11);
    settings("turn times size", 11);
    settings("turn times 2 times 2", 13);
    settings("turn if 1=1 times 2", 12);
  }

  static void promise13WIsFrom0To15() {
    for (String word : new String[] {"broad", "sense"}) {
      settings("set " + word + " 0", GOOD);
      settings("set " + word + " 15", GOOD);
      settings("set " + word + " 16", 10);
      settings("set " + word + " 1000", 10);
      settings("set " + word, 9);
      settings("set " + word + " [1]", 10);
      settings("set " + word + " -1", 10);
      settings("set " + word + " size", 10);
    }
  }

  static void promise13NoneAheadOfAnyText() {
    HeadFits x = new HeadFits();
    due("at first", x.fault(), -1);
    Check.write(x, "?");
    x.word(0, 0, 0);
    due("behind a bad word", x.fault(), -1);
  }

  static void promise13OfTheLatestText() {
    HeadFits x = new HeadFits();
    Check.law(x, "bars 1");
    due("a law's", x.fault(), 5);
    Check.settings(x, "turn turn turn");
    due("settings'", x.fault(), 5);
    Check.settings(x, "?");
    due("at the first byte", x.fault(), 0);
    Check.settings(x, "turn");
    due("could be read, though not run", x.fault(), -1);
    Check.law(x, "?");
    Check.law(x, "bars");
    due("could be read", x.fault(), -1);
  }

  static void promise13ALawWithoutRoomReadsNone() {
    HeadFits x = new HeadFits();
    sixLaws(x);
    Check.settings(x, "turn ;;");
    due("settings'", x.fault(), 6);
    due("no room", Check.law(x, "bars"), -5);
    due("it stays", x.fault(), 6);
  }
}
