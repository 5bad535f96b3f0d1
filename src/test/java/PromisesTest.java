/** Promise by promise: ordinary inputs, the edges that the document names, wrong inputs. */
public final class PromisesTest {
  public static void main(String[] args) {
    newObject();
    breadths();
    columns();
    sizes();
    worthsAndTerms();
    tape();
    words();
    wordRoom();
    at();
    laws();
    lawRoom();
    force();
    saying();
    nextDoor();
    set();
    turnAndClear();
    headAndLines();
    costs();
    undo();
    fit();
    fitAlike();
    fitTies();
    overNarrowLargest();
    truest();
    says();
    changed();
    edition();
    readers();
    images();
    imagesOfOthers();
    counts();
    status();
    Check.close("PromisesTest");
  }

  private static void due(String call, long got, long want) {
    Check.due(call, got, want);
  }

  private static void newObject() {
    HeadFits x = new HeadFits();
    due("1 NONE", HeadFits.NONE, -1);
    int[] first = {0, 0, 0, 0, 0, 0, 0, 0, 0, 0, 0, 0, 0, -1, 0, 0, 100, 3, 0};
    for (int what = 0; what < first.length; what++) due("1 count " + what, x.count(what), first[what]);
    due("1 status", x.status(), 0);
    due("1 fault", x.fault(), -1);
    due("1 stopped", x.stopped(), -1);
    due("1 cost", x.cost(), 0);
    due("1 undo", x.undo(), -3);
    due("1 drawn", x.drawn(0), -1);
    due("1 head", x.head(0, 0), -1);
    due("1 back", x.back(0), -2);
    due("1 hush", x.hush(), 0);
    due("1 forget", x.forget(), 0);
    due("1 cancel", x.cancel(), 0);
    for (int line = 0; line < 4; line++) due("1 beside", x.beside(line, -1), -1);
    due("1 beside is no refusal", x.status(), 0);
  }

  private static void breadths() {
    HeadFits x = new HeadFits();
    for (int letter = 0; letter < 26; letter++) due("2 at first", x.breadth(letter, 20), 10);
    due("2 blank", x.breadth(26, 1), 5);
    due("2 blank again", x.breadth(26, 20), 1);
    due("2 again", x.breadth(25, 1), 20);
    due("2 letter 27", x.breadth(27, 5), -1);
    due("2 letter -1", x.breadth(-1, 5), -1);
    due("2 hairs 0", x.breadth(0, 0), -1);
    due("2 hairs 21", x.breadth(0, 21), -1);
    due("2 nothing was changed", x.breadth(0, 20), 20);
    due("2 count", x.count(8), 4);
  }

  private static void columns() {
    HeadFits x = new HeadFits();
    due("3", x.column(10, 1), 0);
    due("3 hairs", x.count(16), 10);
    due("3 lines", x.count(17), 1);
    due("3 most", x.column(400, 4), 0);
    due("3 below", x.column(9, 1), -1);
    due("3 above", x.column(401, 1), -1);
    due("3 no line", x.column(100, 0), -1);
    due("3 five", x.column(100, 5), -1);
    Check.word(x, "a", 0, 0, 0);
    x.set(0);
    due("3 head", x.column(100, 3), -3);
    due("3 the number first", x.column(9, 3), -1);
    due("3 stays", x.count(16), 400);
    x.clear();
    due("3 empty again", x.column(100, 3), 0);
    due("3 nothing to undo", x.undo(), -3);
  }

  private static void sizes() {
    HeadFits x = new HeadFits();
    Check.word(x, "abc", 0, 0, 0);
    x.breadth(0, 7);
    x.breadth(1, 7);
    x.breadth(2, 1);
    due("4 size 0", x.at(0, 4), 15);
    due("4", x.size(1), 0);
    due("4 each letter is cut", x.at(0, 4), 10 + 10 + 1);
    due("4", x.size(2), 1);
    due("4 twice", x.at(0, 4), 30);
    due("4 3", x.size(3), -1);
    due("4 -1", x.size(-1), -1);
    x.set(0);
    due("4 head", x.size(0), -3);
    due("4 number first", x.size(9), -1);
    due("4 stays", x.count(18), 2);
    x.clear();
    due("4 behind clear", x.size(2), 2);
    due("4 the same size ends undo, too", x.undo(), -3);
  }

  private static void worthsAndTerms() {
    HeadFits x = new HeadFits();
    due("5", x.worth(0, 99), 1);
    due("5", x.worth(7, 0), 1);
    due("5", x.worth(7, 3), 0);
    due("5 sense", x.worth(8, 0), -1);
    due("5 sense", x.worth(-1, 0), -1);
    due("5 value", x.worth(0, 100), -1);
    due("5 value", x.worth(0, -1), -1);
    due("5 stays", x.worth(0, 1), 99);
    due("6 day", x.terms(0, 999), 0);
    due("6 mood", x.terms(1, 9), 0);
    due("6 day", x.terms(0, 1000), -1);
    due("6 day", x.terms(0, -1), -1);
    due("6 mood", x.terms(1, 10), -1);
    due("6 what", x.terms(2, 0), -1);
    due("6 what", x.terms(-1, 0), -1);
    due("6 count", x.count(14), 999);
    due("6 count", x.count(15), 9);
    due("6 was", x.terms(0, 5), 999);
  }

  private static void tape() {
    HeadFits x = new HeadFits();
    for (int i = 1; i <= 20; i++) due("7", x.feed(0x61626364, 0x65666768, 0, 0, 0), 20 * i);
    due("7 full", x.feed(0, 0, 0, 0, 0), -1);
    due("7 full", x.count(7), 400);
    due("8 too many", x.end(401), -1);
    due("8 below", x.end(-1), -1);
    due("8", x.end(381), 381);
    due("7 401", x.feed(0, 0, 0, 0, 0), -1);
    due("8", x.end(380), 380);
    due("7 400", x.feed(0, 0, 0, 0, 0), 400);
    due("8", x.end(0), 0);
    due("8", x.end(0), 0);
    due("8", x.end(1), -1);
    due("7, 8 are never refused", x.status() + x.count(8), 0);
    x.feed(0x7a797877, 0x76757473, 0x72000000, 0, 0);
    x.end(9);
    due("7 the highest first", x.word(0, 0, 0), 0);
    due("7 the highest first", x.at(0, 5), 25);
    x.feed(0xe1000000, 0, 0, 0, 0);
    x.end(1);
    due("7 bytes above 127 are no letters", x.word(0, 0, 0), -6);
  }

  private static void words() {
    HeadFits x = new HeadFits();
    due("9", Check.word(x, "abcdefghi", 7, 99, 10), 0);
    due("9", Check.word(x, "z", 0, 0, 0), 1);
    due("9 the tape is empty", x.count(7), 0);
    int[][] no = {{8, 0, 0}, {-1, 0, 0}, {0, 100, 0}, {0, -1, 0}, {0, 0, 11}, {0, 0, -1}};
    Check.write(x, "ab");
    for (int[] w : no) due("9 -1", x.word(w[0], w[1], w[2]), -1);
    due("9 the tape stays", x.count(7), 2);
    due("9", x.word(0, 0, 0), 2);
    due("9 no text", x.word(0, 0, 0), -6);
    String[] bad = {"abcdefghij", "aB", "a b", "a1", " a", "a ", "`", "{", "a\0"};
    for (String text : bad) {
      due("9 " + text, Check.word(x, text, 0, 0, 0), -6);
      due("9 the tape is empty", x.count(7), 0);
    }
    due("9", Check.word(x, "b", 0, 0, 0), 3);
    due("9 three of a sense", Check.word(x, "c", 0, 0, 0), -3);
    due("9 the tape is empty", x.count(7), 0);
    due("9 -3 comes ahead of -6", Check.word(x, "C", 0, 0, 0), -3);
    due("9 -1 comes ahead of -3", Check.word(x, "c", 0, 0, 11), -1);
    due("9 count", x.count(0), 4);
  }

  private static void wordRoom() {
    HeadFits x = new HeadFits();
    for (int i = 0; i < 16; i++) due("9 word", Check.word(x, "a", i / 2, 0, 0), i);
    due("9 no room", Check.word(x, "a", 0, 0, 0), -5);
    due("9 -5 comes ahead of -6", Check.word(x, "", 0, 0, 0), -5);
    due("9 the tape is empty", x.count(7), 0);
    HeadFits y = new HeadFits();
    for (int i = 0; i < 16; i++) Check.word(y, "a", i / 3, 0, 0);
    due("9 -3 comes ahead of -5", Check.word(y, "a", 0, 0, 0), -3);
    due("9 -5", Check.word(y, "a", 5, 0, 0), -5);
  }

  private static void at() {
    HeadFits x = new HeadFits();
    Check.word(x, "fox", 3, 40, 7);
    int[] told = {3, 40, 7, 3, 30, 5, 40, 0};
    for (int what = 0; what < 8; what++) due("10 what " + what, x.at(0, what), told[what]);
    due("10", x.at(0, 8), -1);
    due("10", x.at(0, -1), -1);
    due("10", x.at(1, 0), -1);
    due("10", x.at(-1, 0), -1);
    Check.inForce(x, "loses sense*100+truth if length=3;bars if loss>39");
    due("10 loses", x.at(0, 6), 307);
    due("10 barred", x.at(0, 7), 1);
    due("10 loss", x.at(0, 1), 40);
    due("10 is never refused", x.status(), 0);
  }

  private static void laws() {
    HeadFits x = new HeadFits();
    due("11", Check.law(x, "bars"), 0);
    due("11 the tape is empty", x.count(7), 0);
    due("13", x.fault(), -1);
    due("11 empty", Check.law(x, ""), -6);
    due("13 empty", x.fault(), 0);
    due("11 blanks", Check.law(x, "    "), -6);
    due("13 blanks", x.fault(), 4);
    due("11 the tape is empty", x.count(7), 0);
    due("11", Check.law(x, " bars  if 1=1 ; loses[mood]"), 1);
    due("13 none again", x.fault(), -1);
    due("5 laws", x.count(5), 2);
  }

  private static void lawRoom() {
    HeadFits x = new HeadFits();
    for (int i = 0; i < 5; i++) due("11", Check.law(x, "costs " + i), i);
    due("11", Check.law(x, "costs"), -6);
    due("13", x.fault(), 5);
    due("11", Check.law(x, "costs 5"), 5);
    due("11 no room", Check.law(x, "costs 6"), -5);
    due("13 none", x.fault(), -1);
    due("12", Check.settings(x, "turn 1"), -6);
    due("11 no room, ahead of reading it", Check.law(x, ""), -5);
    due("13 it was not read", x.fault(), 5);
    due("11 the tape is empty", x.count(7), 0);
  }

  private static void force() {
    HeadFits x = new HeadFits();
    due("15", x.force(0), -2);
    due("15", x.force(-1), -1);
    due("15 no refusal", x.status(), 0);
    Check.law(x, "bars");
    due("15", x.force(0), -1);
    due("15", x.force(1), -2);
    due("15", x.force(-2), -2);
    due("15", x.count(13), 0);
    due("15", x.force(-1), 0);
    due("15", x.count(13), -1);
  }

  private static void saying() {
    HeadFits x = new HeadFits();
    due("16", x.say(-1), -1);
    due("16", x.say(8), -1);
    for (int i = 1; i <= 6; i++) due("16", x.say(7), i);
    due("16 no room", x.say(0), -5);
    due("16 -1 first", x.say(8), -1);
    due("17", x.hush(), 6);
    due("17", x.hush(), 0);
    due("17 count", x.count(1), 0);
    due("16", x.say(0), 1);
  }

  private static void nextDoor() {
    HeadFits x = new HeadFits();
    Check.word(x, "a", 0, 0, 0);
    due("18", x.beside(3, 0), -1);
    due("18", x.beside(3, -1), 0);
    due("18", x.beside(3, 1), -2);
    due("18", x.beside(3, -2), -2);
    due("18", x.beside(4, 0), -1);
    due("18", x.status(), -1);
    due("18", x.beside(-1, 5), -1);
    due("18", x.status(), -1);
    due("18", x.beside(3, -1), -1);
    due("18", x.status(), 0);
  }

  private static void set() {
    HeadFits x = new HeadFits();
    Check.word(x, "abcd", 0, 0, 0);
    Check.word(x, "abcde", 1, 0, 0);
    Check.word(x, "a", 2, 0, 0);
    due("19", x.set(-1), -2);
    due("19", x.set(3), -2);
    due("19", x.set(0), 60);
    due("19 a blank between", x.set(1), 5);
    due("19 too broad", x.set(2), -3);
    x.clear();
    x.breadth(26, 10);
    due("19", x.set(0), 60);
    due("19 just fits", x.set(1), 0);
    x.clear();
    Check.inForce(x, "bars if word=2");
    due("19 barred", x.set(2), -3);
    x.force(-1);
    x.column(400, 4);
    x.breadth(26, 1);
    for (int i = 0; i < 12; i++) x.set(2);
    due("19", x.count(2), 12);
    due("19 no room", x.set(2), -5);
    x.force(0);
    due("19 -3 ahead of -5", x.set(2), -3);
    due("19 -2 ahead of all", x.set(3), -2);
  }

  private static void turnAndClear() {
    HeadFits x = new HeadFits();
    Check.word(x, "a", 0, 0, 0);
    due("20 no words", x.turn(), -3);
    x.column(100, 2);
    x.set(0);
    due("20", x.turn(), 1);
    due("20 twice", x.turn(), -3);
    x.set(0);
    due("20 no more lines", x.turn(), -3);
    due("21", x.clear(), 2);
    due("21 none", x.clear(), -3);
    x.set(0);
    due("21 the first line again", x.head(0, 1), 0);
    x.turn();
    due("21 behind a turn", x.clear(), 1);
    due("25 clear", x.undo(), 2);
    x.set(0);
    due("25 the turn, too, is as it was", x.head(1, 1), 1);
  }

  private static void headAndLines() {
    HeadFits x = new HeadFits();
    Check.word(x, "ab", 0, 3, 0);
    Check.word(x, "ac", 0, 4, 0);
    Check.word(x, "bc", 0, 5, 0);
    x.beside(1, 2);
    x.set(0);
    x.turn();
    x.set(1);
    x.set(2);
    x.turn();
    x.set(2);
    int[][] told = {{20, 1, 80, 0, 0}, {45, 2, 75, 1, 1}, {20, 1, 80, 0, 0}, {0, 0, 0, 0, 0}};
    for (int line = 0; line < 4; line++) {
      for (int what = 0; what < 5; what++) {
        due("23 " + line + ", " + what, x.line(line, what), told[line][what]);
      }
    }
    due("23", x.line(0, 5), -1);
    due("23", x.line(0, -1), -1);
    due("23", x.line(4, 0), -1);
    due("23", x.line(-1, 0), -1);
    int[][] head = {{0, 0}, {1, 1}, {2, 1}, {2, 2}};
    for (int i = 0; i < 4; i++) {
      due("22", x.head(i, 0), head[i][0]);
      due("22", x.head(i, 1), head[i][1]);
    }
    due("22", x.head(4, 0), -1);
    due("22", x.head(-1, 0), -1);
    due("22", x.head(0, 2), -1);
    due("22", x.head(0, -1), -1);
    due("24 losses and lines", x.cost(), 3 + 4 + 5 + 5 + 80 + 75 + 80);
  }

  private static void costs() {
    HeadFits x = new HeadFits();
    Check.word(x, "abcde", 1, 30, 8);
    Check.word(x, "aaaa", 2, 0, 0);
    x.set(0);
    x.turn();
    x.set(1);
    due("24 white and alike", x.cost(), 30 + 50 + 60 + 20);
    x.breadth(0, 20);
    x.breadth(1, 20);
    x.breadth(2, 20);
    x.breadth(3, 20);
    x.breadth(4, 21 - 1);
    x.breadth(26, 1);
    due("23 all white is used", x.line(0, 2), 0);
    Check.inForce(x, "costs 0-white*1000; loses 0-5; costs white if many>1");
    due("24 below 0 is 0, above 999 is 999", x.line(0, 2), 0);
    due("24 alike adds nothing to what a law tells", x.line(1, 2), 0);
    Check.inForce(x, "costs line*1000 ; loses 1000");
    due("23 999 at most, also if alike", x.line(1, 2), 999);
    due("24", x.cost(), 999 + 999 + 0 + 999);
    Check.inForce(x, "costs 7 if line=0; costs 8/0 if line=1");
    due("23 where none holds 20 more if alike", x.line(1, 2), 20 + 20);
    due("24 line by line", x.cost(), 30 + 7 + 20 + 20);
    Check.inForce(x, "costs 7+20*alike");
    due("24 a law may ask for alike itself", x.cost(), 30 + 7 + 27);
    Check.inForce(x, "loses 1; bars if word=9");
    due("24 a law without costs", x.cost(), 1 + 1 + 0 + 20 + 20);
    HeadFits y = new HeadFits();
    Check.word(y, "aaaaaaaaa", 0, 0, 0);
    y.set(0);
    y.breadth(0, 20);
    due("23 too broad", y.line(0, 0), 180);
    due("23 costs 0 without", y.line(0, 2), 0);
    Check.inForce(y, "costs 0-white");
    due("23 white is below 0", y.line(0, 2), 80);
  }

  private static void undo() {
    HeadFits x = new HeadFits();
    Check.word(x, "a", 0, 0, 0);
    x.column(400, 4);
    for (int i = 0; i < 12; i++) x.set(0);
    x.clear();
    for (int i = 0; i < 4; i++) x.set(0);
    due("25 16 are kept", x.count(6), 16);
    for (int i = 0; i < 4; i++) due("25 set", x.undo(), 0);
    due("25 none in the head", x.count(2), 0);
    due("25 clear", x.undo(), 2);
    due("25 all again", x.count(2), 12);
    for (int i = 0; i < 11; i++) due("25 set", x.undo(), 0);
    due("25 one too old", x.undo(), -3);
    due("25 it stays", x.count(2), 1);
    x.turn();
    due("25 turn", x.undo(), 1);
    x.turn();
    x.set(0);
    x.clear();
    x.set(0);
    x.set(0);
    for (int i = 0; i < 3; i++) x.undo();
    due("25 lines as they were", x.head(1, 1), 1);
    x.undo();
    due("25 turn", x.undo(), 1);
    x.turn();
    due("25 refused", x.breadth(0, 0), -1);
    due("25 refused", x.column(50, 4), -3);
    due("25 refused", x.size(0), -3);
    due("25 what was refused lets it be", x.count(6), 1);
    x.breadth(26, 5);
    due("25 behind breadth", x.count(6), 0);
    due("25 behind breadth", x.undo(), -3);
    due("25 the turn stays", x.turn(), -3);
  }

  private static void fit() {
    HeadFits x = new HeadFits();
    due("26 no saying", x.fit(0), -1);
    due("26 no saying, for 1 too", x.fit(1), -1);
    due("26 no saying", x.fit(2), -1);
    x.say(0);
    due("26 a sense is told", x.fit(1), 0);
    due("26 a sense is told", x.hush(), 1);
    due("26 no saying again", x.fit(1), -1);
    Check.word(x, "abcdefghi", 0, 0, 0);
    x.say(0);
    x.say(1);
    due("26 no word for a sense", x.fit(1), 0);
    due("26 no word for a sense", x.fit(3), -1);
    Check.word(x, "bb", 1, 9, 0);
    due("26 cost", x.fit(0), 9 + 10 + 80);
    due("26 ways", x.fit(1), 1);
    due("26 lines", x.fit(2), 2);
    due("26 word", x.fit(3), 0);
    due("26 word", x.fit(4), 1);
    due("26 none told", x.fit(5), -1);
    due("26 none told", x.fit(8), -1);
    due("26 turn", x.fit(9), 0);
    due("26 turn", x.fit(10), 1);
    due("26 none told", x.fit(11), -1);
    due("26 none told", x.fit(15), -1);
    due("26 none told", x.fit(-1), -1);
    x.column(100, 1);
    due("26 one line", x.fit(1), 0);
    due("26 one line", x.fit(0), -1);
    x.column(115, 1);
    due("26 one line fits", x.fit(0), 9);
    Check.inForce(x, "bars if truth<5");
    due("26 all barred", x.fit(1), 0);
    x.hush();
    due("26 no saying again", x.fit(1), -1);
  }

  private static void fitAlike() {
    HeadFits x = new HeadFits();
    Check.word(x, "ab", 0, 0, 5);
    Check.word(x, "ac", 1, 0, 10);
    Check.word(x, "cc", 1, 15, 0);
    x.say(0);
    x.say(1);
    x.column(30, 2);
    due("26 another word loses less than alike costs", x.fit(4), 2);
    due("26 white and the loss", x.fit(0), 10 + 10 + 15);
    due("30 white and alike", x.truest(2), 10 + 10 + 20);
    Check.inForce(x, "costs white");
    due("26 a law costs nothing more for alike", x.fit(4), 1);
    due("26 a law costs nothing more for alike", x.fit(0), 10 + 10);
    due("30 a law costs nothing more for alike", x.truest(2), 10 + 10);
    Check.inForce(x, "costs white if line=0");
    due("26 the law tells of another line", x.fit(4), 2);
    due("30 the law tells of another line", x.truest(2), 10 + 10 + 20);
    Check.inForce(x, "costs 1000*alike");
    due("26 alike is dear", x.fit(4), 2);
    due("30 999 at most", x.truest(2), 999);
  }

  private static void fitTies() {
    HeadFits x = new HeadFits();
    for (int i = 0; i < 3; i++) Check.word(x, "ab", 4, 5, 5);
    for (int i = 0; i < 6; i++) x.say(4);
    x.column(400, 4);
    Check.inForce(x, "costs 0-20");
    due("26 all rows", x.fit(1), 729 * 26);
    due("26 all cost the same, none turns first", x.fit(2), 1);
    due("26 the first words", x.fit(8), 0);
    x.column(45, 4);
    due("26 three lines of two or four", x.fit(1), 729 * (1 + 6));
    due("26 a law costs nothing more for alike", x.fit(0), 30);
    x.force(-1);
    due("26 20 more for each line that is alike", x.fit(0), 30 + 20 * 2);
    int[] turns = {0, 0, 1, 0, 1, 0};
    for (int i = 0; i < 6; i++) due("26 turns", x.fit(9 + i), turns[i]);
    Check.inForce(x, "costs 0; loses 9-word if size=0");
    due("26 words that lose least", x.fit(3), 2);
    HeadFits y = new HeadFits();
    Check.word(y, "ba", 1, 0, 0);
    Check.word(y, "ab", 0, 0, 0);
    Check.word(y, "cc", 1, 0, 0);
    y.say(0);
    y.say(1);
    y.column(20, 2);
    due("26 the lowest word", y.fit(4), 0);
    y.beside(1, 0);
    Check.inForce(y, "costs 10*echo");
    due("26 no echo", y.fit(4), 2);
    due("26 cost", y.fit(0), 0);
  }

  private static void overNarrowLargest() {
    HeadFits x = new HeadFits();
    due("27 no row", x.over(), -1);
    due("28 no row", x.narrow(), -1);
    due("29 no row", x.largest(), -1);
    Check.word(x, "aaaaaaaaa", 0, 0, 0);
    Check.word(x, "bb", 0, 0, 0);
    x.say(0);
    x.say(0);
    x.say(0);
    x.say(0);
    x.column(30, 3);
    due("28", x.narrow(), 45);
    due("27", x.over(), 15);
    due("29 none", x.largest(), -1);
    x.column(45, 3);
    due("27 fits", x.over(), 0);
    due("29", x.largest(), 0);
    x.column(89, 3);
    due("28 three lines", x.narrow(), 45);
    due("29 67 in size 1", x.largest(), 1);
    x.column(90, 3);
    due("29", x.largest(), 2);
    Check.inForce(x, "bars if length=2 and size>0");
    due("29 bars ask of that size", x.largest(), 0);
    due("28 of this size", x.narrow(), 45);
    x.size(2);
    due("28 broad words", x.narrow(), 180 * 2 + 10);
    due("27", x.over(), 280);
    due("29 not of this size alone", x.largest(), 0);
    x.force(-1);
    x.breadth(1, 1);
    x.size(0);
    x.hush();
    x.say(0);
    due("28 below 10", x.narrow(), 2);
    HeadFits y = new HeadFits();
    Check.word(y, "aaaaaaaaa", 0, 0, 0);
    y.breadth(0, 20);
    y.size(2);
    for (int i = 0; i < 6; i++) y.say(0);
    y.column(400, 1);
    due("28 above 400", y.narrow(), 6 * 360 + 5 * 10);
    due("27", y.over(), 6 * 360 + 5 * 10 - 400);
  }

  private static void truest() {
    HeadFits x = new HeadFits();
    due("30 no saying", x.truest(0), -1);
    Check.word(x, "aaaaaaaaa", 0, 1, 10);
    Check.word(x, "bbbb", 0, 2, 4);
    Check.word(x, "bb", 1, 3, 5);
    Check.word(x, "cc", 1, 4, 5);
    x.say(0);
    x.say(1);
    due("30 upper", x.truest(0), 1);
    due("30 lower", x.truest(1), 2);
    due("30 cost", x.truest(2), 1 + 3 + 10 + 80);
    due("30 word", x.truest(3), 0);
    due("30 the first", x.truest(4), 2);
    due("30 turn", x.truest(10), 1);
    due("30", x.truest(9), 0);
    due("30 none told", x.truest(5), -1);
    due("30 none told", x.truest(11), -1);
    due("30 none told", x.truest(-1), -1);
    x.column(80, 1);
    due("30 only what fits", x.truest(0), 1);
    due("30 only what fits", x.truest(1), 5);
    due("30 only what fits", x.truest(3), 1);
    x.column(64, 1);
    due("30 none fits", x.truest(0), -1);
    HeadFits y = new HeadFits();
    Check.word(y, "a", 0, 0, 0);
    Check.word(y, "b", 0, 0, 0);
    for (int i = 0; i < 6; i++) y.say(0);
    due("30 0 in lowest terms", y.truest(0), 0);
    due("30 0 in lowest terms", y.truest(1), 1);
    due("30 the first words", y.truest(8), 0);
    due("30 no turn", y.truest(14), 0);
    y.column(25, 4);
    int[] turns = {0, 0, 1, 0, 1, 0};
    for (int i = 0; i < 6; i++) due("30 the first turns", y.truest(9 + i), turns[i]);
    Check.word(y, "c", 0, 0, 3);
    due("30 729", y.truest(0), 729);
    due("30 by a million", y.truest(1), 1000000);
  }

  private static void says() {
    HeadFits x = new HeadFits();
    due("31 no saying", x.says(100, 0), 0);
    due("31 no saying", x.says(100, 1), 0);
    due("31 no saying", x.says(100, 2), 0);
    Check.word(x, "aaa", 0, 0, 0);
    Check.word(x, "bb", 0, 0, 0);
    Check.word(x, "cc", 1, 0, 0);
    Check.word(x, "d", 2, 0, 0);
    x.say(0);
    x.say(1);
    x.say(2);
    x.say(3);
    due("31 nothing fits", x.says(9, 0), 0);
    due("31 nothing fits", x.says(9, 2), 0);
    due("31 the lowest bits", x.says(20, 1), 1);
    due("31 two", x.says(35, 1), 5);
    due("31 two", x.says(35, 2), 35);
    due("31 three, no word for the fourth", x.says(400, 1), 7);
    due("31 three", x.says(400, 0), 3);
    due("31 three", x.says(400, 2), 60);
    due("31 just not", x.says(59, 1), 3);
    due("31 hairs", x.says(1, 0), 0);
    due("31 hairs", x.says(0, 0), -1);
    due("31 hairs", x.says(401, 0), -1);
    due("31 what", x.says(100, 3), -1);
    due("31 what", x.says(100, -1), -1);
    x.worth(0, 0);
    due("31 worth nothing is left out", x.says(400, 1), 6);
    Check.inForce(x, "bars if word=1");
    x.worth(0, 50);
    due("31 the narrowest is barred", x.says(25, 1), 2);
    due("31 the broad one", x.says(30, 0), 50);
    x.force(-1);
    x.size(2);
    due("31 sizes", x.says(70, 2), 70);
  }

  private static void changed() {
    HeadFits x = new HeadFits();
    due("34 no head", x.changed(-1), 0);
    Check.word(x, "aaa", 0, 0, 0);
    Check.word(x, "bb", 0, 0, 0);
    Check.word(x, "cc", 1, 0, 0);
    Check.word(x, "dddd", 0, 0, 0);
    x.set(0);
    x.set(2);
    x.turn();
    x.set(1);
    due("34 nothing seen", x.changed(-1), 4);
    due("34", x.changed(0), 1);
    due("34", x.changed(1), 3);
    due("34", x.changed(2), 32);
    due("34", x.changed(3), 35);
    due("34", x.changed(4), -1);
    due("34", x.changed(-2), -1);
    due("32", x.seen(1, 20), 1);
    due("34 the second line is as it was", x.changed(-1), 2);
    due("32", x.seen(0, 45), 2);
    due("34", x.changed(-1), 1);
    due("34", x.changed(0), 1);
    due("32", x.seen(3, 0), 3);
    due("34 a line without words", x.changed(-1), 1);
    due("32", x.seen(0, 999), 4);
    due("34 twice the same line", x.changed(-1), 0);
    due("32 no room", x.seen(0, 0), -5);
    due("32", x.seen(4, 0), -1);
    due("32", x.seen(-1, 0), -1);
    due("32", x.seen(0, 1000), -1);
    due("32", x.seen(0, -1), -1);
    due("33", x.forget(), 4);
    due("33", x.forget(), 0);
    Check.inForce(x, "bars");
    due("34 bars aside", x.changed(-1), 4);
  }

  private static void edition() {
    HeadFits x = new HeadFits();
    for (int what = 0; what < 3; what++) due("37 none", x.edition(what), 0);
    due("37 none", x.edition(3), -1);
    due("37 none", x.edition(-1), -1);
    due("35", x.matter(5, 20, 3), 0);
    due("35", x.matter(5, 10, 3), 1);
    due("35", x.matter(5, 10, 3), 2);
    due("35", x.matter(5, 10, 3), 3);
    due("37 the lowest bits", x.edition(1), 7);
    due("37 worth", x.edition(0), 9);
    due("37 done", x.edition(2), 15);
    due("37 by due, then numbers", x.edition(3), 1);
    due("37 by due, then numbers", x.edition(4), 2);
    due("37 by due, then numbers", x.edition(5), 0);
    due("37", x.edition(6), -1);
    int[][] no = {{0, 1, 1}, {100, 1, 1}, {1, -1, 1}, {1, 1000, 1}, {1, 1, 0}, {1, 1, 100}};
    for (int[] m : no) due("35 -1", x.matter(m[0], m[1], m[2]), -1);
    for (int i = 4; i < 8; i++) due("35", x.matter(1, 0, 99), i);
    due("35 no room", x.matter(1, 1, 1), -5);
    due("35 -1 first", x.matter(0, 1, 1), -1);
    due("37 never done by 0", x.edition(1), 7);
    due("36", x.cancel(), 8);
    due("36", x.cancel(), 0);
    due("35", x.matter(99, 99, 99), 0);
    due("37 just done", x.edition(2), 99);
  }

  private static void readers() {
    HeadFits x = new HeadFits();
    due("38 no head", x.readers(0, 100), 100);
    due("39 no head", x.drawn(0), -1);
    Check.word(x, "a", 0, 0, 10);
    Check.word(x, "b", 0, 0, 0);
    x.set(0);
    due("38 all", x.readers(1000000, 100), 100);
    due("39 all", x.drawn(0), 100);
    x.set(1);
    due("39 the head then", x.drawn(1), -1);
    due("38 none", x.readers(7, 50), 0);
    due("39", x.drawn(0), 50);
    due("39", x.drawn(1), 0);
    due("39", x.drawn(-1), -1);
    due("38", x.readers(-1, 1), -1);
    due("38", x.readers(1000001, 1), -1);
    due("38", x.readers(0, 0), -1);
    due("38", x.readers(0, 101), -1);
    x.clear();
    due("39 the latest stay", x.drawn(0), 50);
    Check.word(x, "c", 1, 0, 6);
    x.set(2);
    long s = 77;
    int all = 0;
    for (int i = 0; i < 30; i++) {
      s = (s * 1103 + 12345) % 1000003;
      if (s % 10 < 6) all++;
    }
    due("38", x.readers(77, 30), all);
  }

  private static void images() {
    HeadFits x = new HeadFits();
    due("40", x.image(2), -1);
    due("40", x.image(-1), -1);
    due("41", x.back(2), -1);
    due("41", x.back(0), -2);
    Check.word(x, "aa", 0, 1, 2);
    Check.law(x, "loses 5");
    x.force(0);
    x.breadth(0, 7);
    x.terms(0, 3);
    x.say(0);
    x.beside(0, 0);
    x.set(0);
    x.seen(0, 14);
    x.matter(1, 2, 3);
    x.readers(1, 9);
    due("40", x.image(1), 0);
    due("25 an image lets undo be", x.count(6), 1);
    Check.word(x, "bb", 0, 1, 2);
    Check.law(x, "bars");
    Check.law(x, "bars 1");
    x.force(1);
    x.beside(0, -1);
    x.say(5);
    x.clear();
    x.column(50, 2);
    x.size(1);
    x.breadth(0, 9);
    x.worth(0, 8);
    x.terms(0, 4);
    x.terms(1, 4);
    x.forget();
    x.cancel();
    due("19 barred", x.set(0), -3);
    x.readers(1, 5);
    x.feed(0, 0, 0, 0, 0);
    due("41", x.back(1), 0);
    int[] kept = {1, 1, 1, 1, 1, 1, 0, 20};
    for (int what = 0; what < 8; what++) due("41 count " + what, x.count(what), kept[what]);
    int[] more = {0, 3, 0, 100, 3, 0};
    for (int i = 0; i < 6; i++) due("41 count " + (13 + i), x.count(13 + i), more[i]);
    due("41 nothing to undo", x.undo(), -3);
    due("41 loses", x.at(0, 6), 5);
    due("41 not barred", x.at(0, 7), 0);
    due("41 fault stays", x.fault(), 5);
    due("41 the latest readers stay", x.drawn(0), -1);
    due("41 head", x.head(0, 0), 0);
    due("41 beside", x.beside(0, -1), 0);
    due("41 breadth", x.breadth(0, 10), 7);
    due("41 worth", x.worth(0, 1), 1);
    due("41 refusals stay counted", x.count(8), 3);
    x.end(0);
    due("11 a law comes in the place again", Check.law(x, "loses 6"), 1);
    due("41 images stay", x.back(1), 0);
    due("41 images stay", x.count(5), 1);
    due("41 other image", x.back(0), -2);
    x.worth(0, 44);
    x.image(1);
    x.worth(0, 1);
    x.back(1);
    due("40 kept anew", x.worth(0, 1), 44);
  }

  // What stands in the same places, but was put there behind another image.
  private static void imagesOfOthers() {
    HeadFits x = new HeadFits();
    x.image(0);
    fill(x, "fox", 3, 4);
    x.image(1);
    x.back(0);
    due("41 empty", x.count(0), 0);
    fill(x, "ibex", 5, 6);
    x.back(1);
    int[] told = {3, 4, 4, 3, 30, 5, 104, 0};
    for (int what = 0; what < 8; what++) due("41 word, " + what, x.at(0, what), told[what]);
    due("41 saying", x.truest(3), 0);
    due("41 seen", x.changed(-1), 1);
    due("41 matters", x.edition(0) * 1000 + x.edition(2), 4003);
    due("41 beside", x.beside(3, -1), 0);
    due("41 head", x.count(2), 2);
    due("41 head", x.head(1, 0), 1);
  }

  private static void fill(HeadFits x, String letters, int sense, int value) {
    Check.word(x, letters, sense, value, value);
    Check.word(x, "a", sense, 0, 0);
    Check.word(x, "b", 0, 0, 0);
    Check.inForce(x, "loses loss+100 if length=" + letters.length());
    x.say(sense);
    x.beside(3, sense == 3 ? 0 : 1);
    x.set(sense == 3 ? 0 : 1);
    x.set(sense == 3 ? 1 : 0);
    x.seen(0, 10 * (letters.length() + letters.length()) + 5);
    x.seen(3, 0);
    x.matter(sense, value * 10, value);
  }

  private static void counts() {
    HeadFits x = new HeadFits();
    due("42", x.count(19), -1);
    due("42", x.count(-1), -1);
    x.breadth(99, 1);
    x.set(0);
    x.force(3);
    x.turn();
    x.undo();
    x.clear();
    for (int i = 0; i < 10; i++) x.say(1);
    for (int i = 0; i < 5; i++) x.law();
    int[] many = {1, 2, 3, 4, 5};
    for (int i = 0; i < 5; i++) due("42 refused", x.count(8 + i), many[i]);
    due("42", x.count(1), 6);
  }

  private static void status() {
    HeadFits x = new HeadFits();
    x.say(9);
    x.feed(0, 0, 0, 0, 0);
    x.end(99);
    x.at(0, 0);
    x.fit(0);
    x.hush();
    x.forget();
    x.cancel();
    x.over();
    x.changed(0);
    x.edition(0);
    x.drawn(0);
    x.count(99);
    x.fault();
    x.stopped();
    due("43 others let it be", x.status(), -1);
    x.end(0);
    int[][] told = {
      {x.breadth(0, 0), x.status()}, {x.column(0, 0), x.status()}, {x.size(9), x.status()},
      {x.worth(9, 0), x.status()}, {x.terms(9, 9), x.status()}, {x.word(9, 9, 9), x.status()},
      {x.law(), x.status()}, {x.settings(), x.status()}, {x.force(9), x.status()},
      {x.say(9), x.status()}, {x.beside(9, 9), x.status()}, {x.set(9), x.status()},
      {x.turn(), x.status()}, {x.clear(), x.status()}, {x.undo(), x.status()},
      {x.seen(9, 9), x.status()}, {x.matter(0, 0, 0), x.status()}, {x.readers(0, 0), x.status()},
      {x.image(9), x.status()}, {x.back(1), x.status()}
    };
    int[] want = {-1, -1, -1, -1, -1, -1, -6, -6, -2, -1, -1, -2, -3, -3, -3, -1, -1, -1, -1, -2};
    for (int i = 0; i < want.length; i++) {
      due("43 answer " + i, told[i][0], want[i]);
      due("43 status " + i, told[i][1], want[i]);
    }
    Check.word(x, "a", 0, 0, 0);
    due("43 word", x.status(), 0);
    int granted = 0;
    x.say(9); x.breadth(0, 5); granted += x.status();
    x.say(9); x.column(50, 2); granted += x.status();
    x.say(9); x.size(1); granted += x.status();
    x.say(9); x.worth(0, 5); granted += x.status();
    x.say(9); x.terms(0, 5); granted += x.status();
    x.say(9); Check.law(x, "bars if 1=2"); granted += x.status();
    x.say(9); Check.settings(x, "turn if 1=2"); granted += x.status();
    x.say(9); x.force(0); granted += x.status();
    x.say(9); x.say(0); granted += x.status();
    x.say(9); x.beside(0, 0); granted += x.status();
    x.say(9); x.set(0); granted += x.status();
    x.say(9); x.turn(); granted += x.status();
    x.say(9); x.clear(); granted += x.status();
    x.say(9); x.undo(); granted += x.status();
    x.say(9); x.seen(0, 0); granted += x.status();
    x.say(9); x.matter(1, 1, 1); granted += x.status();
    x.say(9); x.readers(0, 1); granted += x.status();
    x.say(9); x.image(1); granted += x.status();
    x.say(9); x.back(1); granted += x.status();
    due("43 granted", granted, 0);
  }
}
