/** The two languages: what can be read, where the FAULT is, what SUMS, TESTS and CLAUSES answer. */
public final class LanguagesTest {
  public static void main(String[] args) {
    lawFaults();
    settingFaults();
    limits();
    sums();
    tests();
    facts();
    clauses();
    settingsRun();
    settingsFacts();
    settingsStop();
    settingsAndUndo();
    Check.close("LanguagesTest");
  }

  private static void due(String call, long got, long want) {
    Check.due(call, got, want);
  }

  private static void lawFault(String text, int place) {
    HeadFits x = new HeadFits();
    due("law " + text, Check.law(x, text), place < 0 ? 0 : -6);
    due("fault of " + text, x.fault(), place);
    due("count of " + text, x.count(12), place < 0 ? 0 : 1);
  }

  private static void settingFault(String text, int place) {
    HeadFits x = new HeadFits();
    int answer = Check.settings(x, text);
    due("settings " + text, answer == -6 ? 1 : 0, place < 0 ? 0 : 1);
    due("fault of " + text, x.fault(), place);
    if (place >= 0) due("stopped of " + text, x.stopped(), -1);
  }

  private static void lawFaults() {
    String[] good = {
      "bars", " bars ", "bars;bars", "loses 1", "loses1", "costs 1+2-3*4/5%6", "loses[1]",
      "loses [[1]+2]*3", "bars if 1=1", "bars if(1=1)", "bars if ((1=1)) and not not 2>1 or 3<4",
      "loses word if not(not 1<2)", "loses 1000", "loses 0001000", "bars if [1]=[2]",
      "loses word+sense+loss+truth+length+line+white+many+alike+echo+size+day+mood",
      "loses 00000000000000000000000000001", "costs white if alike=0 and echo=0;loses 2 if day>3",
    };
    for (String text : good) lawFault(text, -1);
    lawFault("", 0);
    lawFault("   ", 3);
    lawFault("bars;", 5);
    lawFault("bars ;  ", 8);
    lawFault(";bars", 0);
    lawFault("bars;;bars", 5);
    lawFault("loses", 5);
    lawFault("loses  ", 7);
    lawFault("loses 1001", 6);
    lawFault("loses 99999999999999999999", 6);
    lawFault("loses (1)", 6);
    lawFault("loses 1 1", 8);
    lawFault("loses 1 < 2", 8);
    lawFault("loses -1", 6);
    lawFault("loses 1+", 8);
    lawFault("loses 1+*2", 8);
    lawFault("loses [1", 8);
    lawFault("loses [1)", 8);
    lawFault("loses 1]", 7);
    lawFault("loses words", 6);
    lawFault("loses left", 6);
    lawFault("loses done", 6);
    lawFault("loses Word", 6);
    lawFault("losesword", 0);
    lawFault("set 1", 0);
    lawFault("bars 1", 5);
    lawFault("bars times 2", 5);
    lawFault("bars if", 7);
    lawFault("bars if 1", 9);
    lawFault("bars if 1+2)", 11);
    lawFault("bars if 1<=2", 10);
    lawFault("bars if 1=2=3", 11);
    lawFault("bars if (1=2", 12);
    lawFault("bars if (1=2]", 12);
    lawFault("bars if [1=2]", 10);
    lawFault("bars if (1)=2", 10);
    lawFault("bars if not", 11);
    lawFault("bars if 1=2 and", 15);
    lawFault("bars if 1=2 or or", 15);
    lawFault("bars if 1=2 not 1=2", 12);
    lawFault("bars if and", 8);
    lawFault("bars if if", 8);
    lawFault("bars if 1=1 if 1=1", 12);
    lawFault("bars\tif 1=1", 4);
    lawFault("bars\0", 4);
    lawFault("bars" + (char) 160, 4);
    lawFault("bars if 1=1.", 11);
  }

  private static void settingFaults() {
    String[] good = {
      "turn", "clear", "set 0", "size 0", "turn times 1", "turn times 20 if 1=1",
      "set words+line+left+done+size+broad 0+sense 15", "size size", "set broad0times2if 1=1",
      "turn;clear;set 1;size 2", "turn times 0000020", "set [sense 015]",
    };
    for (String text : good) settingFault(text, -1);
    settingFault("", 0);
    settingFault("  ", 2);
    settingFault("turn times 0", 11);
    settingFault("turn times 21", 11);
    settingFault("turn times", 10);
    settingFault("turn times words", 11);
    settingFault("turn times [1]", 11);
    settingFault("turn times 2 times 2", 13);
    settingFault("turn if 1=1 times 2", 12);
    settingFault("turn 1", 5);
    settingFault("clear 1", 6);
    settingFault("set", 3);
    settingFault("size", 4);
    settingFault("set turn", 4);
    settingFault("set broad", 9);
    settingFault("set broad 16", 10);
    settingFault("set broad [1]", 10);
    settingFault("set sense", 9);
    settingFault("set sense words", 10);
    settingFault("set sense 1000", 10);
    settingFault("set word", 4);
    settingFault("set mood", 4);
    settingFault("set loss", 4);
    settingFault("bars", 0);
    settingFault("loses 1", 0);
    settingFault("set 0;", 6);
  }

  private static String many(String text, int times) {
    StringBuilder all = new StringBuilder();
    for (int i = 0; i < times; i++) all.append(text);
    return all.toString();
  }

  private static void limits() {
    lawFault(many("bars;", 11) + "bars", -1);
    lawFault(many("bars;", 12) + "bars", 60);
    lawFault(many("bars;", 12) + "  bars", 62);
    lawFault(many("bars;", 12), 60);
    lawFault(many("bars;", 11) + "bars bars", 60);
    lawFault("loses " + many("1+", 49) + "1", -1);
    lawFault("loses " + many("1+", 50) + "1", 106);
    lawFault("loses " + many("day+", 50) + "day", 206);
    lawFault("loses " + many("1+", 24) + "1;bars if " + many("1+", 23) + "1=1", -1);
    lawFault("loses " + many("1+", 24) + "1;bars if " + many("1+", 24) + "1=1", 114);
    lawFault("loses " + many("1+", 50) + "[1]", 107);
    lawFault("loses " + many("[", 8) + "1" + many("]", 8), -1);
    lawFault("loses " + many("[", 9) + "1" + many("]", 9), 14);
    lawFault("bars if " + many("(", 8) + "1=1" + many(")", 8), -1);
    lawFault("bars if " + many("(", 9) + "1=1" + many(")", 9), 16);
    lawFault("bars if " + many("(", 4) + many("[", 4) + "1]]]]=1))))", -1);
    lawFault("bars if " + many("(", 4) + many("[", 5) + "1]]]]]=1))))", 16);
    lawFault("bars if " + many("(not not ", 8) + "1=1" + many(")", 8), -1);
    lawFault("loses " + many("[1]+", 40) + "1", -1);
    lawFault("bars if " + many("not ", 90) + "1=1", -1);
    settingFault("set " + many("broad 1+", 34) + "0", -1);
    settingFault("set 0 times 20;" + many("size 0;", 9) + "size 0", -1);
    settingFault("turn times 2;" + many("size ", 1) + many("sense 1-", 40) + "1", -1);
    settingFault("turn times 5;set " + many("words+", 50) + "words", 317);
  }

  /** What a SUM is, by a WORD that LOSES it; 99, if it is BROKEN. */
  private static void sum(String text, int want) {
    HeadFits x = new HeadFits();
    Check.word(x, "fox", 3, 99, 7);
    Check.inForce(x, "loses " + text);
    due(text, x.at(0, 6), want);
  }

  private static void sums() {
    sum("1+2*3", 7);
    sum("[1+2]*3", 9);
    sum("10-3-2", 5);
    sum("100/10/5", 2);
    sum("100/[10/5]", 50);
    sum("7/2*2", 6);
    sum("17%5", 2);
    sum("[0-7]/2+10", 7);
    sum("[0-7]%2+10", 9);
    sum("7%[0-2]+10", 11);
    sum("2*3%4", 2);
    sum("1000", 999);
    sum("0-1", 0);
    sum("1/0", 99);
    sum("1%0", 99);
    sum("0/0", 99);
    sum("0*[1/0]", 99);
    sum("1000*1000*1000/1000/1000/1000", 1);
    sum("1000*1000*1000+1", 99);
    sum("[1000*1000*1000+1]/1000/1000/1000", 99);
    sum("0-1000*1000*1000", 0);
    sum("0-1000*1000*1000-1", 99);
    sum("1000*1000*1000*1000*1000", 99);
    sum("[0-1000*1000*1000]*[0-1000*1000*1000]", 99);
    sum("1000*1000*1000*[1000*1000*1000]", 99);
  }

  /** Whether a TEST bars a WORD: a BROKEN one does not, nor does it with "not" ahead of it. */
  private static void test(String text, boolean want) {
    HeadFits x = new HeadFits();
    Check.word(x, "fox", 3, 99, 7);
    Check.inForce(x, "bars if " + text);
    due(text, x.at(0, 7), want ? 1 : 0);
  }

  private static void tests() {
    test("1<2", true);
    test("2<2", false);
    test("2>1", true);
    test("2>2", false);
    test("2=2", true);
    test("2=3", false);
    test("not 2=3", true);
    test("not not 2=3", false);
    test("not not not 2=3", true);
    test("1=1 or 1=2 and 1=2", true);
    test("(1=1 or 1=2) and 1=2", false);
    test("not 1=1 or 1=1", true);
    test("not (1=1 or 1=1)", false);
    test("1=2 or 1=2 or 1=1", true);
    test("1=1 and 1=1 and 1=2", false);
    test("1=2 and 1=1 or 1=1", true);
    test("1=1 or 1/0=1", true);
    test("1/0=1 or 1=1", false);
    test("not (1/0=1)", false);
    test("1=2 and 1/0=1", false);
    test("not (1=2 and 1/0=1)", true);
    test("1=2 and 1/0=1 or 1=1", true);
    test("1=1 and 1/0=1 or 1=1", false);
    test("1=1 or 1/0=1 and 1/0=1", true);
    test("1=2 or 1=1 or 1/0=1", true);
    test("not (1=1 and 1=1 and (1=2 and 1/0=1))", true);
    test("1/0=1/0", false);
    test("[1+1]=2", true);
    test("1+1=3-1 and not 1+1>2", true);
  }

  private static void facts() {
    HeadFits x = new HeadFits();
    Check.word(x, "zz", 1, 0, 0);
    Check.word(x, "ibex", 5, 42, 7);
    x.column(150, 4);
    x.size(2);
    x.terms(0, 345);
    x.terms(1, 6);
    String[] words = {"word", "sense", "loss", "truth", "length", "line", "white", "many", "alike",
      "echo", "size", "day", "mood"};
    int[] ofWord = {1, 5, 42, 7, 4, -1, -1, -1, -1, -1, 2, 345, 6};
    x.set(0);
    x.turn();
    x.set(0);
    x.beside(1, 0);
    int[] ofLine = {-1, -1, -1, -1, -1, 1, 110, 1, 1, 1, 2, 345, 6};
    x.image(0);
    for (int i = 0; i < words.length; i++) {
      x.back(0);
      Check.inForce(x, "loses " + words[i] + "+500;costs " + words[i] + "+500");
      due("of a word: " + words[i], x.at(1, 6), ofWord[i] + 500);
      due("of a line: " + words[i], x.line(1, 2), ofLine[i] + 500);
    }
  }

  private static void clauses() {
    HeadFits x = new HeadFits();
    Check.word(x, "aa", 0, 11, 0);
    Check.inForce(x, "loses 1;loses 2;loses 3 if 1=2;loses 4/0;loses 5 if 1/0=0");
    due("the last that holds", x.at(0, 6), 2);
    Check.inForce(x, "loses 3 if 1=2;loses 4/0");
    due("none holds", x.at(0, 6), 11);
    x.set(0);
    Check.inForce(x, "costs 7;loses 8;costs 9 if white>80");
    due("costs", x.line(0, 2), 7);
    due("loses", x.at(0, 6), 8);
    Check.inForce(x, "bars if 1=1;bars if 1=2");
    due("any that holds bars", x.at(0, 7), 1);
    Check.inForce(x, "bars if 1/0=1");
    due("broken bars nothing", x.at(0, 7), 0);
    x.force(-1);
    due("no law", x.at(0, 6), 11);
    due("no law", x.line(0, 2), 80);
  }

  private static HeadFits withWords() {
    HeadFits x = new HeadFits();
    Check.word(x, "aa", 0, 1, 5);
    Check.word(x, "bbb", 1, 2, 6);
    Check.word(x, "ccccccccc", 2, 3, 7);
    return x;
  }

  private static void settingsRun() {
    HeadFits x = withWords();
    due("12", Check.settings(x, "set 0;set 1;turn;set 2"), 4);
    due("12 the tape is empty", x.count(7), 0);
    due("22", x.head(2, 1), 1);
    due("12", Check.settings(x, "clear;size 1;set 0 times 2;turn if words>2;size 2 if 1/0=1"), 4);
    due("12", x.count(2), 2);
    due("12", x.count(18), 1);
    due("14", x.stopped(), -1);
    due("12 nothing is run", Check.settings(x, "clear times 20 if 1=2"), 0);
    due("12 the test is asked each time", Check.settings(x, "clear times 20 if words>0"), 1);
    due("12 done", Check.settings(x, "set done times 2;clear;set 0 if done=3"), 4);
    due("12", x.head(0, 0), 0);
    due("12 by one as a sum", Check.settings(x, "clear;size size+1"), 2);
    due("12", x.count(18), 2);
  }

  /** A fact of settings: the SUM tells a WORD, or it can't be. */
  private static void fact(HeadFits x, String text, int want) {
    due(text, Check.settings(x, "clear if " + text + "=" + want + " and words>0"), 1);
    due(text, x.undo(), 2);
    due(text, Check.settings(x, "clear if not " + text + "=" + want), 0);
  }

  private static void settingsFacts() {
    HeadFits x = withWords();
    x.set(0);
    x.set(1);
    fact(x, "words", 2);
    fact(x, "line", 0);
    fact(x, "left", 45);
    fact(x, "done", 0);
    fact(x, "size", 0);
    fact(x, "broad 2", 90);
    fact(x, "sense 2", 2);
    due("-1 for no such word", Check.settings(x, "turn if broad 3=0-1 and sense 15=0-1"), 1);
    fact(x, "line", 1);
    fact(x, "left", 100);
    x.breadth(0, 20);
    x.breadth(1, 20);
    x.clear();
    x.size(2);
    due("broad of the size now", Check.settings(x, "size 1;set 0 if broad 0=60"), 2);
    x.breadth(0, 20);
    fact(x, "left", 40);
    HeadFits y = withWords();
    y.set(2);
    y.breadth(2, 20);
    due("left below 0", Check.settings(y, "turn if left+80=0"), 1);
  }

  private static void stop(HeadFits x, String text, int answer, int clause) {
    int words = x.count(2);
    int size = x.count(18);
    int undo = x.count(6);
    due(text, Check.settings(x, text), answer);
    due("stopped: " + text, x.stopped(), clause);
    due("status: " + text, x.status(), answer);
    due("fault: " + text, x.fault(), -1);
    due("words: " + text, x.count(2), words);
    due("size: " + text, x.count(18), size);
    due("undo: " + text, x.count(6), undo);
  }

  private static void settingsStop() {
    HeadFits x = withWords();
    stop(x, "turn", -3, 0);
    stop(x, "clear", -3, 0);
    stop(x, "size 3", -3, 0);
    stop(x, "size 0-1", -3, 0);
    stop(x, "set 3", -3, 0);
    stop(x, "set 0-1", -3, 0);
    stop(x, "set 1/0", -3, 0);
    stop(x, "size 1;set 0;size 1", -3, 2);
    stop(x, "set 0;set 2", -3, 1);
    stop(x, "set 0;turn;turn", -3, 2);
    stop(x, "set 0;turn;set 0;turn;set 0;turn", -3, 5);
    stop(x, "set 0;clear times 2", -3, 1);
    x.column(400, 4);
    stop(x, "size 1;size 0;set 0 times 13", -5, 2);
    due("12 just room", Check.settings(x, "set 0 times 12"), 12);
    stop(x, "set 0", -5, 0);
    stop(x, "set 9", -3, 0);
    stop(x, "clear;size 2;size 3", -3, 2);
    due("42 a call counts once", x.count(10), 14);
    due("42 a call counts once", x.count(11), 2);
    due("12 bad", Check.settings(x, "turn turn"), -6);
    due("14 none of the latest", x.stopped(), -1);
    stop(x, "set 9", -3, 0);
    Check.settings(x, "clear");
    due("14 none of the latest", x.stopped(), -1);
    stop(x, "set 9", -3, 0);
    Check.law(x, "bars");
    due("14 a law lets it be", x.stopped(), 0);
    x.force(0);
    stop(x, "set 0", -3, 0);
  }

  private static void settingsAndUndo() {
    HeadFits x = withWords();
    x.set(0);
    Check.settings(x, "turn;set 1;clear;set 2");
    due("25", x.count(6), 5);
    int[] kinds = {0, 2, 0, 1, 0, -3};
    for (int kind : kinds) due("25 each one by one", x.undo(), kind);
    x.set(0);
    Check.settings(x, "clear;size 0;set 1");
    due("25 nothing ahead of a size", x.count(6), 1);
    x.column(400, 4);
    due("3", x.status(), -3);
    x.clear();
    x.column(400, 4);
    for (int i = 0; i < 5; i++) x.set(1);
    x.turn();
    x.set(1);
    due("12 stops", Check.settings(x, "set 0 times 5;clear;set 0 times 12;clear;turn"), -3);
    due("25 all is as it was", x.count(6), 7);
    due("25 all is as it was", x.undo(), 0);
    due("25 all is as it was", x.undo(), 1);
    due("25 all is as it was", x.head(4, 0), 1);
  }
}
