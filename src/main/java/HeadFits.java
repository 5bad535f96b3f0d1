/**
 * Heads over what has happened, in one column. The document ../shared/DOC.md says what each call
 * promises; the words in it that stand in capitals are used here as they are there.
 */
public final class HeadFits {
  /** There is none. */
  public static final int NONE = -1;

  private static final int WRONG_NUMBER = -1;
  private static final int NO_SUCH = -2;
  private static final int CANT_BE = -3;
  private static final int NO_ROOM = -5;
  private static final int BAD_TEXT = -6;

  private static final int LETTER_KINDS = 27;
  private static final int BLANK = 26;
  private static final int WORD_ROOM = 16;
  private static final int WORDS_OF_A_SENSE = 3;
  private static final int LETTERS_IN_A_WORD = 9;
  private static final int SENSES = 8;
  private static final int SAYING_ROOM = 6;
  private static final int LINE_ROOM = 4;
  private static final int HEAD_ROOM = 12;
  private static final int SEEN_ROOM = 4;
  private static final int MATTER_ROOM = 8;
  private static final int LAW_ROOM = 6;
  private static final int IMAGES = 2;
  private static final int UNDO_ROOM = 16;
  private static final int LARGEST_SIZE = 2;

  private static final int TAPE_ROOM = 400;
  private static final int CLAUSE_ROOM = 12;
  private static final int PART_ROOM = 50;
  private static final int BRACKET_ROOM = 8;
  private static final int LARGEST_NUMBER = 1000;
  private static final int MOST_TIMES = 20;
  // A TOKEN leaves at most one step of two numbers, so that a whole TAPE finds room.
  private static final int CODE_ROOM = 2 * TAPE_ROOM;
  private static final long LIMIT = 1000000000L;

  private static final String LAW_CLAUSES = "loses costs bars";
  private static final String LAW_WORDS =
      "word sense loss truth length line white many alike echo size day mood";
  private static final String SETTING_CLAUSES = "set turn clear size";
  private static final String SETTING_WORDS = "words line left done size broad sense";

  private static final int LOSES = 0;
  private static final int COSTS = 1;
  private static final int BARS = 2;

  private static final int SET = 0;
  private static final int TURN = 1;
  private static final int CLEAR = 2;
  private static final int RESIZE = 3;

  // Where a law's words stand among the facts that are asked.
  private static final int FACT_LENGTH = 4;
  private static final int FACT_LINE = 5;
  private static final int FACT_ECHO = 9;
  private static final int FACT_SIZE = 10;
  private static final int FACT_DAY = 11;
  private static final int FACT_MOOD = 12;
  // Where those of settings stand that tell of one WORD, a row of all WORDS each.
  private static final int FACT_BROAD = 5;
  private static final int FACT_SENSE = FACT_BROAD + WORD_ROOM;
  private static final int FACT_ROOM = FACT_SENSE + WORD_ROOM;

  // Steps of a TEXT that has been read: each is one of these and a number.
  private static final int STEP_NUMBER = 0;
  private static final int STEP_FACT = 1;
  private static final int STEP_PLUS = 2;
  private static final int STEP_MINUS = 3;
  private static final int STEP_BY = 4;
  private static final int STEP_PARTED = 5;
  private static final int STEP_REST = 6;
  private static final int STEP_LESS = 7;
  private static final int STEP_MORE = 8;
  private static final int STEP_SAME = 9;
  private static final int STEP_NOT = 10;
  private static final int STEP_SKIP_IF_SO = 11;
  private static final int STEP_SKIP_IF_NOT = 12;

  private final Desk desk = new Desk();
  private final Desk[] images = new Desk[IMAGES];
  private final byte[] tape = new byte[TAPE_ROOM];
  private final Parser parser = new Parser();
  private final Reckoner reckoner = new Reckoner();
  private final Judge judge = new Judge(desk, reckoner);
  private final Rows rows = new Rows(desk, judge);
  private final Edition paper = new Edition();
  private final Audience audience = new Audience();
  private final Past past = new Past();
  private final Past pastBefore = new Past();
  private final Head headBefore = new Head();
  private final int[] refusals = new int[5];
  private int tapeLength = 0;
  private int stoppedClause = NONE;
  private int latestRefusal = 0;
  private int changes = 0;

  /** An empty column. */
  public HeadFits() {}

  public int breadth(int letter, int hairs) {
    if (!within(letter, 0, BLANK) || !within(hairs, 1, 20)) return refuse(WRONG_NUMBER);
    int was = desk.breadths[letter];
    desk.breadths[letter] = hairs;
    past.empty();
    return granted(was);
  }

  public int column(int hairs, int lines) {
    if (!within(hairs, 10, 400) || !within(lines, 1, LINE_ROOM)) return refuse(WRONG_NUMBER);
    if (desk.head.count > 0) return refuse(CANT_BE);
    desk.hairs = hairs;
    desk.lines = lines;
    past.empty();
    return granted(0);
  }

  public int size(int value) {
    return answered(changeSize(value));
  }

  public int worth(int sense, int value) {
    if (!within(sense, 0, SENSES - 1) || !within(value, 0, 99)) return refuse(WRONG_NUMBER);
    int was = desk.worths[sense];
    desk.worths[sense] = value;
    return granted(was);
  }

  public int terms(int what, int value) {
    if (!within(what, 0, 1) || !within(value, 0, what == 0 ? 999 : 9)) return refuse(WRONG_NUMBER);
    int was = desk.dayAndMood[what];
    desk.dayAndMood[what] = value;
    return granted(was);
  }

  public int feed(int a, int b, int c, int d, int e) {
    if (tapeLength + 20 > TAPE_ROOM) return NONE;
    addBytes(a);
    addBytes(b);
    addBytes(c);
    addBytes(d);
    addBytes(e);
    return tapeLength;
  }

  public int end(int n) {
    if (!within(n, 0, tapeLength)) return NONE;
    tapeLength = n;
    return n;
  }

  public int word(int sense, int loss, int truth) {
    if (!within(sense, 0, SENSES - 1) || !within(loss, 0, 99) || !within(truth, 0, 10)) {
      return refuse(WRONG_NUMBER);
    }
    int length = tapeLength;
    tapeLength = 0;
    Words words = desk.words;
    if (words.manyOf(sense) >= WORDS_OF_A_SENSE) return refuse(CANT_BE);
    if (words.count >= WORD_ROOM) return refuse(NO_ROOM);
    if (!words.spell(tape, length)) return refuse(BAD_TEXT);
    return granted(words.add(sense, loss, truth));
  }

  public int at(int word, int what) {
    Words words = desk.words;
    if (!words.has(word)) return NONE;
    switch (what) {
      case 0: return words.senses[word];
      case 1: return words.losses[word];
      case 2: return words.truths[word];
      case 3: return words.lengths[word];
      case 4: return desk.wordWidth(word, desk.size);
      case 5: return words.firstLetter(word);
      case 6: return judge.lossOf(word, desk.size);
      case 7: return judge.isBarred(word, desk.size) ? 1 : 0;
      default: return NONE;
    }
  }

  public int law() {
    int length = tapeLength;
    tapeLength = 0;
    if (desk.lawCount >= LAW_ROOM) return refuse(NO_ROOM);
    if (!parser.reads(tape, length, true)) return refuse(BAD_TEXT);
    desk.laws[desk.lawCount] = parser.text.trimmed();
    desk.lawCount++;
    return granted(desk.lawCount - 1);
  }

  public int settings() {
    int length = tapeLength;
    tapeLength = 0;
    stoppedClause = NONE;
    if (!parser.reads(tape, length, false)) return refuse(BAD_TEXT);
    return answered(runWholly(parser.text));
  }

  public int fault() {
    return parser.faultPlace;
  }

  public int stopped() {
    return stoppedClause;
  }

  public int force(int law) {
    if (law != NONE && !within(law, 0, desk.lawCount - 1)) return refuse(NO_SUCH);
    int was = desk.inForce;
    desk.inForce = law;
    return granted(was);
  }

  public int say(int sense) {
    if (!within(sense, 0, SENSES - 1)) return refuse(WRONG_NUMBER);
    if (desk.sayingCount >= SAYING_ROOM) return refuse(NO_ROOM);
    desk.saying[desk.sayingCount] = sense;
    desk.sayingCount++;
    return granted(desk.sayingCount);
  }

  public int hush() {
    int was = desk.sayingCount;
    desk.sayingCount = 0;
    changes++;
    return was;
  }

  public int beside(int line, int word) {
    if (!within(line, 0, LINE_ROOM - 1)) return refuse(WRONG_NUMBER);
    if (word != NONE && !desk.words.has(word)) return refuse(NO_SUCH);
    int was = desk.nextDoor[line];
    desk.nextDoor[line] = word;
    return granted(was);
  }

  public int set(int word) {
    return answered(placeWord(word));
  }

  public int turn() {
    return answered(turnLine());
  }

  public int clear() {
    return answered(emptyHead());
  }

  public int head(int i, int what) {
    if (!within(i, 0, desk.head.count - 1)) return NONE;
    if (what == 0) return desk.head.words[i];
    return what == 1 ? desk.head.lines[i] : NONE;
  }

  public int line(int line, int what) {
    if (!within(line, 0, LINE_ROOM - 1)) return NONE;
    switch (what) {
      case 0: return desk.lineWidth(line);
      case 1: return desk.head.manyIn(line);
      case 2: return judge.headLineCost(line);
      case 3: return desk.isAlike(line) ? 1 : 0;
      case 4: return desk.isEcho(line) ? 1 : 0;
      default: return NONE;
    }
  }

  public int cost() {
    int sum = 0;
    for (int i = 0; i < desk.head.count; i++) sum += judge.lossOf(desk.head.words[i], desk.size);
    for (int line = 0; line < LINE_ROOM; line++) sum += judge.headLineCost(line);
    return sum;
  }

  public int undo() {
    if (past.count == 0) return refuse(CANT_BE);
    return granted(past.takeBack(desk.head));
  }

  public int fit(int what) {
    if (desk.sayingCount == 0) return NONE;
    rows.solve(changes);
    if (what == 1) return rows.ways;
    if (rows.ways == 0) return NONE;
    if (what == 0) return costIn(rows.best);
    if (what == 2) return linesIn(rows.best);
    return toldIn(rows.best, what);
  }

  public int over() {
    int narrowest = rows.narrowestColumn(desk.size);
    return narrowest == NONE ? NONE : Math.max(0, narrowest - desk.hairs);
  }

  public int narrow() {
    return rows.narrowestColumn(desk.size);
  }

  public int largest() {
    for (int size = LARGEST_SIZE; size >= 0; size--) {
      int narrowest = rows.narrowestColumn(size);
      if (narrowest != NONE && narrowest <= desk.hairs) return size;
    }
    return NONE;
  }

  public int truest(int what) {
    rows.solve(changes);
    if (rows.truth == NONE) return NONE;
    int lower = powerOfTen(desk.sayingCount);
    int common = commonDivisor(rows.truth, lower);
    if (what == 0) return rows.truth / common;
    if (what == 1) return lower / common;
    if (what == 2) return costIn(rows.truestRow);
    return toldIn(rows.truestRow, what);
  }

  public int says(int hairs, int what) {
    if (!within(hairs, 1, 400) || !within(what, 0, 2)) return NONE;
    int places = rows.mostWorth(hairs);
    if (what == 0) return rows.worthOf(places);
    return what == 1 ? places : rows.widthOf(places);
  }

  public int seen(int line, int hairs) {
    if (!within(line, 0, LINE_ROOM - 1) || !within(hairs, 0, 999)) return refuse(WRONG_NUMBER);
    if (desk.seenCount >= SEEN_ROOM) return refuse(NO_ROOM);
    desk.seen[2 * desk.seenCount] = line;
    desk.seen[2 * desk.seenCount + 1] = hairs;
    desk.seenCount++;
    return granted(desk.seenCount);
  }

  public int forget() {
    int was = desk.seenCount;
    desk.seenCount = 0;
    return was;
  }

  public int changed(int i) {
    int found = 0;
    for (int place = 0; place < desk.head.count; place++) {
      for (int other = 0; other < desk.words.count; other++) {
        if (!desk.mayStandFor(place, other) || !desk.isAsSeen(place, other)) continue;
        if (found == i) return WORD_ROOM * place + other;
        found++;
      }
    }
    return i == NONE ? found : NONE;
  }

  public int matter(int minutes, int due, int worth) {
    if (!within(minutes, 1, 99) || !within(due, 0, 999) || !within(worth, 1, 99)) {
      return refuse(WRONG_NUMBER);
    }
    if (desk.matterCount >= MATTER_ROOM) return refuse(NO_ROOM);
    int number = desk.matterCount;
    desk.minutes[number] = minutes;
    desk.dues[number] = due;
    desk.matterWorths[number] = worth;
    desk.matterCount++;
    return granted(number);
  }

  public int cancel() {
    int was = desk.matterCount;
    desk.matterCount = 0;
    return was;
  }

  public int edition(int what) {
    paper.choose(desk);
    if (what == 0) return paper.worth;
    if (what == 1) return paper.bits;
    if (what == 2) return paper.minutes;
    return what < 3 ? NONE : paper.inOrder(what - 3);
  }

  public int readers(int seed, int n) {
    if (!within(seed, 0, 1000000) || !within(n, 1, 100)) return refuse(WRONG_NUMBER);
    return granted(audience.read(desk, seed, n));
  }

  public int drawn(int i) {
    return within(i, 0, audience.count - 1) ? audience.believed[i] : NONE;
  }

  public int image(int k) {
    if (!within(k, 0, IMAGES - 1)) return refuse(WRONG_NUMBER);
    if (images[k] == null) images[k] = new Desk();
    images[k].takeFrom(desk);
    return granted(0);
  }

  public int back(int k) {
    if (!within(k, 0, IMAGES - 1)) return refuse(WRONG_NUMBER);
    if (images[k] == null) return refuse(NO_SUCH);
    desk.takeFrom(images[k]);
    past.empty();
    return granted(0);
  }

  public int count(int what) {
    if (within(what, 8, 12)) return refusals[what - 8];
    switch (what) {
      case 0: return desk.words.count;
      case 1: return desk.sayingCount;
      case 2: return desk.head.count;
      case 3: return desk.seenCount;
      case 4: return desk.matterCount;
      case 5: return desk.lawCount;
      case 6: return past.count;
      case 7: return tapeLength;
      case 13: return desk.inForce;
      case 14: return desk.dayAndMood[0];
      case 15: return desk.dayAndMood[1];
      case 16: return desk.hairs;
      case 17: return desk.lines;
      case 18: return desk.size;
      default: return NONE;
    }
  }

  public int status() {
    return latestRefusal;
  }

  private static boolean within(int value, int least, int most) {
    return value >= least && value <= most;
  }

  // What was worked out before a change may be wrong behind it, so changes are numbered.
  private int granted(int answer) {
    latestRefusal = 0;
    changes++;
    return answer;
  }

  private int refuse(int why) {
    latestRefusal = why;
    refusals[refusalPlace(why)]++;
    return why;
  }

  private static int refusalPlace(int why) {
    switch (why) {
      case NO_SUCH: return 1;
      case CANT_BE: return 2;
      case NO_ROOM: return 3;
      case BAD_TEXT: return 4;
      default: return 0;
    }
  }

  // For what never answers below 0 but when it is REFUSED.
  private int answered(int answer) {
    return answer < 0 ? refuse(answer) : granted(answer);
  }

  private void addBytes(int four) {
    for (int shift = 24; shift >= 0; shift -= 8) {
      tape[tapeLength] = (byte) (four >>> shift);
      tapeLength++;
    }
  }

  // These four answer as the calls do, but count nothing: SETTINGS use them, too.

  private int changeSize(int value) {
    if (!within(value, 0, LARGEST_SIZE)) return WRONG_NUMBER;
    if (desk.head.count > 0) return CANT_BE;
    int was = desk.size;
    desk.size = value;
    past.empty();
    return was;
  }

  private int placeWord(int word) {
    Head head = desk.head;
    if (!desk.words.has(word)) return NO_SUCH;
    int width = desk.lineWidth(head.lineNow) + desk.wordWidth(word, desk.size);
    if (head.manyIn(head.lineNow) > 0) width += desk.letterWidth(BLANK, desk.size);
    if (width > desk.hairs || judge.isBarred(word, desk.size)) return CANT_BE;
    if (head.count >= HEAD_ROOM) return NO_ROOM;
    past.keep(SET, head);
    head.add(word);
    return desk.hairs - width;
  }

  private int turnLine() {
    Head head = desk.head;
    if (head.manyIn(head.lineNow) == 0 || head.lineNow + 1 >= desk.lines) return CANT_BE;
    past.keep(TURN, head);
    head.lineNow++;
    return head.lineNow;
  }

  private int emptyHead() {
    Head head = desk.head;
    if (head.count == 0) return CANT_BE;
    past.keep(CLEAR, head);
    int was = head.count;
    head.count = 0;
    head.lineNow = 0;
    return was;
  }

  private int runWholly(Text text) {
    pastBefore.takeFrom(past);
    headBefore.takeFrom(desk.head);
    int sizeBefore = desk.size;
    int done = 0;
    for (int clause = 0; clause < text.clauseCount; clause++) {
      for (int time = 0; time < text.times[clause]; time++) {
        int answer = runOnce(text, clause, done);
        if (answer < 0) {
          past.takeFrom(pastBefore);
          desk.head.takeFrom(headBefore);
          desk.size = sizeBefore;
          stoppedClause = clause;
          return answer == NO_ROOM ? NO_ROOM : CANT_BE;
        }
        done += answer;
      }
    }
    return done;
  }

  /** Answers 1, 0 if it was not run, below 0 if it can't be. */
  private int runOnce(Text text, int clause, int done) {
    tellFacts(done);
    if (text.hasTest(clause)) {
      boolean whole = reckoner.reckon(text, text.testFrom[clause], text.testEnd[clause]);
      if (!whole || reckoner.value == 0) return 0;
    }
    if (text.hasSum(clause)) {
      if (!reckoner.reckon(text, text.sumFrom[clause], text.testFrom[clause])) return CANT_BE;
    }
    int answer;
    switch (text.kinds[clause]) {
      case SET: answer = placeWord(reckoner.value); break;
      case TURN: answer = turnLine(); break;
      case CLEAR: answer = emptyHead(); break;
      default: answer = changeSize(reckoner.value); break;
    }
    return answer < 0 ? answer : 1;
  }

  private void tellFacts(int done) {
    int[] facts = reckoner.facts;
    facts[0] = desk.head.count;
    facts[1] = desk.head.lineNow;
    facts[2] = desk.hairs - desk.lineWidth(desk.head.lineNow);
    facts[3] = done;
    facts[4] = desk.size;
    for (int word = 0; word < WORD_ROOM; word++) {
      boolean there = desk.words.has(word);
      facts[FACT_BROAD + word] = there ? desk.wordWidth(word, desk.size) : NONE;
      facts[FACT_SENSE + word] = there ? desk.words.senses[word] : NONE;
    }
  }

  private static int powerOfTen(int exponent) {
    int power = 1;
    for (int i = 0; i < exponent; i++) power *= 10;
    return power;
  }

  /** Never 0, as long as b is not. */
  private static int commonDivisor(int a, int b) {
    int high = a;
    int low = b;
    for (int i = 0; i < 64 && low != 0; i++) {
      int rest = high % low;
      high = low;
      low = rest;
    }
    return Math.max(1, high);
  }

  // A ROW is held as one number: what it COSTS, then its WORDS, then its TURNS, the first place
  // highest, so that of two ROWS the lower number is the better one, and parts can be added.

  private static long costKey(int cost) {
    return (long) cost << 30;
  }

  private static long wordKey(int place, int word) {
    return (long) word << (6 + 4 * (SAYING_ROOM - 1 - place));
  }

  private static long turnKey(int place) {
    return 1L << (SAYING_ROOM - 1 - place);
  }

  private static int costIn(long row) {
    return (int) (row >> 30);
  }

  private static int wordIn(long row, int place) {
    return (int) (row >> (6 + 4 * (SAYING_ROOM - 1 - place))) & (WORD_ROOM - 1);
  }

  private static boolean turnsIn(long row, int place) {
    return (row & turnKey(place)) != 0;
  }

  private static int linesIn(long row) {
    return 1 + Long.bitCount(row & 63);
  }

  private int toldIn(long row, int what) {
    int place = what < 9 ? what - 3 : what - 9;
    if (!within(what, 3, 14) || place >= desk.sayingCount) return NONE;
    if (what < 9) return wordIn(row, place);
    return turnsIn(row, place) ? 1 : 0;
  }

  /** All WORDS that there are. */
  private static final class Words {
    final int[] senses = new int[WORD_ROOM];
    final int[] losses = new int[WORD_ROOM];
    final int[] truths = new int[WORD_ROOM];
    final int[] lengths = new int[WORD_ROOM];
    final byte[] letters = new byte[WORD_ROOM * LETTERS_IN_A_WORD];
    int count = 0;

    boolean has(int word) {
      return word >= 0 && word < count;
    }

    int manyOf(int sense) {
      int many = 0;
      for (int word = 0; word < count; word++) {
        if (senses[word] == sense) many++;
      }
      return many;
    }

    int firstLetter(int word) {
      return letters[word * LETTERS_IN_A_WORD];
    }

    boolean beginAlike(int one, int other) {
      return firstLetter(one) == firstLetter(other);
    }

    /** Writes LETTERS where the next WORD comes: it is none before add(). */
    boolean spell(byte[] text, int length) {
      if (count >= WORD_ROOM || length < 1 || length > LETTERS_IN_A_WORD) return false;
      for (int i = 0; i < length; i++) {
        if (text[i] < 'a' || text[i] > 'z') return false;
        letters[count * LETTERS_IN_A_WORD + i] = (byte) (text[i] - 'a');
      }
      lengths[count] = length;
      return true;
    }

    int add(int sense, int loss, int truth) {
      if (count >= WORD_ROOM) return NONE;
      senses[count] = sense;
      losses[count] = loss;
      truths[count] = truth;
      count++;
      return count - 1;
    }

    void takeFrom(Words other) {
      System.arraycopy(other.senses, 0, senses, 0, WORD_ROOM);
      System.arraycopy(other.losses, 0, losses, 0, WORD_ROOM);
      System.arraycopy(other.truths, 0, truths, 0, WORD_ROOM);
      System.arraycopy(other.lengths, 0, lengths, 0, WORD_ROOM);
      System.arraycopy(other.letters, 0, letters, 0, WORD_ROOM * LETTERS_IN_A_WORD);
      count = other.count;
    }
  }

  /** The HEAD: its WORDS, and the LINE in which the next one comes. */
  private static final class Head {
    final int[] words = new int[HEAD_ROOM];
    final int[] lines = new int[HEAD_ROOM];
    int count = 0;
    int lineNow = 0;

    void add(int word) {
      if (count >= HEAD_ROOM) return;
      words[count] = word;
      lines[count] = lineNow;
      count++;
    }

    int manyIn(int line) {
      int many = 0;
      for (int i = 0; i < count; i++) {
        if (lines[i] == line) many++;
      }
      return many;
    }

    int firstIn(int line) {
      for (int i = 0; i < count; i++) {
        if (lines[i] == line) return words[i];
      }
      return NONE;
    }

    void takeFrom(Head other) {
      System.arraycopy(other.words, 0, words, 0, HEAD_ROOM);
      System.arraycopy(other.lines, 0, lines, 0, HEAD_ROOM);
      count = other.count;
      lineNow = other.lineNow;
    }
  }

  /** What can be undone: each time the whole HEAD as it was ahead of it, the oldest goes first. */
  private static final class Past {
    private static final int ROW = 2 * HEAD_ROOM + 3;
    private final int[] kept = new int[UNDO_ROOM * ROW];
    private int next = 0;
    int count = 0;

    void empty() {
      count = 0;
    }

    void keep(int kind, Head head) {
      int at = next * ROW;
      System.arraycopy(head.words, 0, kept, at, HEAD_ROOM);
      System.arraycopy(head.lines, 0, kept, at + HEAD_ROOM, HEAD_ROOM);
      kept[at + 2 * HEAD_ROOM] = head.count;
      kept[at + 2 * HEAD_ROOM + 1] = head.lineNow;
      kept[at + 2 * HEAD_ROOM + 2] = kind;
      next = (next + 1) % UNDO_ROOM;
      count = Math.min(UNDO_ROOM, count + 1);
    }

    /** Answers which kind it was that is undone. */
    int takeBack(Head head) {
      if (count == 0) return NONE;
      next = (next + UNDO_ROOM - 1) % UNDO_ROOM;
      count--;
      int at = next * ROW;
      System.arraycopy(kept, at, head.words, 0, HEAD_ROOM);
      System.arraycopy(kept, at + HEAD_ROOM, head.lines, 0, HEAD_ROOM);
      head.count = kept[at + 2 * HEAD_ROOM];
      head.lineNow = kept[at + 2 * HEAD_ROOM + 1];
      return kept[at + 2 * HEAD_ROOM + 2];
    }

    void takeFrom(Past other) {
      System.arraycopy(other.kept, 0, kept, 0, UNDO_ROOM * ROW);
      next = other.next;
      count = other.count;
    }
  }

  /** All that IMAGES keep. */
  private static final class Desk {
    final int[] breadths = new int[LETTER_KINDS];
    final int[] worths = new int[SENSES];
    final int[] dayAndMood = new int[2];
    final Words words = new Words();
    final Text[] laws = new Text[LAW_ROOM];
    final int[] saying = new int[SAYING_ROOM];
    final int[] nextDoor = new int[LINE_ROOM];
    final Head head = new Head();
    final int[] seen = new int[2 * SEEN_ROOM];
    final int[] minutes = new int[MATTER_ROOM];
    final int[] dues = new int[MATTER_ROOM];
    final int[] matterWorths = new int[MATTER_ROOM];
    int hairs = 100;
    int lines = 3;
    int size = 0;
    int lawCount = 0;
    int inForce = NONE;
    int sayingCount = 0;
    int seenCount = 0;
    int matterCount = 0;

    Desk() {
      for (int letter = 0; letter < BLANK; letter++) breadths[letter] = 10;
      breadths[BLANK] = 5;
      for (int sense = 0; sense < SENSES; sense++) worths[sense] = 1;
      for (int line = 0; line < LINE_ROOM; line++) nextDoor[line] = NONE;
    }

    int letterWidth(int letter, int atSize) {
      return breadths[letter] * (atSize + 2) / 2;
    }

    int wordWidth(int word, int atSize) {
      int width = 0;
      int from = word * LETTERS_IN_A_WORD;
      for (int i = 0; i < words.lengths[word]; i++) {
        width += letterWidth(words.letters[from + i], atSize);
      }
      return width;
    }

    int lineWidth(int line) {
      int width = 0;
      int many = 0;
      for (int i = 0; i < head.count; i++) {
        if (head.lines[i] != line) continue;
        width += wordWidth(head.words[i], size);
        many++;
      }
      return width + Math.max(0, many - 1) * letterWidth(BLANK, size);
    }

    boolean isAlike(int line) {
      int first = head.firstIn(line);
      int above = head.firstIn(line - 1);
      return first != NONE && above != NONE && words.beginAlike(first, above);
    }

    boolean isEcho(int line) {
      for (int i = 0; i < head.count; i++) {
        if (head.lines[i] == line && head.words[i] == nextDoor[line]) return true;
      }
      return false;
    }

    boolean mayStandFor(int place, int other) {
      int word = head.words[place];
      return other != word && words.senses[other] == words.senses[word];
    }

    boolean isAsSeen(int place, int other) {
      int wider = wordWidth(other, size) - wordWidth(head.words[place], size);
      for (int i = 0; i < seenCount; i++) {
        int line = seen[2 * i];
        int width = lineWidth(line) + (line == head.lines[place] ? wider : 0);
        if (width != seen[2 * i + 1]) return false;
      }
      return true;
    }

    void takeFrom(Desk other) {
      System.arraycopy(other.breadths, 0, breadths, 0, LETTER_KINDS);
      System.arraycopy(other.worths, 0, worths, 0, SENSES);
      System.arraycopy(other.dayAndMood, 0, dayAndMood, 0, 2);
      words.takeFrom(other.words);
      // A LAW never changes once it is one, so IMAGES may share it.
      for (int i = 0; i < LAW_ROOM; i++) laws[i] = other.laws[i];
      System.arraycopy(other.saying, 0, saying, 0, SAYING_ROOM);
      System.arraycopy(other.nextDoor, 0, nextDoor, 0, LINE_ROOM);
      head.takeFrom(other.head);
      System.arraycopy(other.seen, 0, seen, 0, 2 * SEEN_ROOM);
      System.arraycopy(other.minutes, 0, minutes, 0, MATTER_ROOM);
      System.arraycopy(other.dues, 0, dues, 0, MATTER_ROOM);
      System.arraycopy(other.matterWorths, 0, matterWorths, 0, MATTER_ROOM);
      hairs = other.hairs;
      lines = other.lines;
      size = other.size;
      lawCount = other.lawCount;
      inForce = other.inForce;
      sayingCount = other.sayingCount;
      seenCount = other.seenCount;
      matterCount = other.matterCount;
    }
  }

  /**
   * A TEXT that has been read: the steps of all its SUMS and TESTS in one row. Those of a CLAUSE's
   * SUM go from sumFrom to testFrom, those of its TEST from there to testEnd.
   */
  private static final class Text {
    final int[] code;
    final int[] kinds;
    final int[] sumFrom;
    final int[] testFrom;
    final int[] testEnd;
    final int[] times;
    int codeLength = 0;
    int clauseCount = 0;

    Text(int codeRoom, int clauseRoom) {
      code = new int[Math.max(0, codeRoom)];
      kinds = new int[Math.max(0, clauseRoom)];
      sumFrom = new int[kinds.length];
      testFrom = new int[kinds.length];
      testEnd = new int[kinds.length];
      times = new int[kinds.length];
    }

    boolean hasSum(int clause) {
      return sumFrom[clause] < testFrom[clause];
    }

    boolean hasTest(int clause) {
      return testFrom[clause] < testEnd[clause];
    }

    boolean addStep(int step, int number) {
      if (codeLength + 2 > code.length) return false;
      code[codeLength] = step;
      code[codeLength + 1] = number;
      codeLength += 2;
      return true;
    }

    /** The skip at this place goes to where the next step comes. */
    void skipToHere(int place) {
      if (place < 0 || place + 2 > codeLength) return;
      code[place + 1] = codeLength - place - 2;
    }

    boolean addClause(int kind, int from, int test, int often) {
      if (clauseCount >= kinds.length) return false;
      kinds[clauseCount] = kind;
      sumFrom[clauseCount] = from;
      testFrom[clauseCount] = test;
      testEnd[clauseCount] = codeLength;
      times[clauseCount] = often;
      clauseCount++;
      return true;
    }

    Text trimmed() {
      Text copy = new Text(codeLength, clauseCount);
      System.arraycopy(code, 0, copy.code, 0, codeLength);
      System.arraycopy(kinds, 0, copy.kinds, 0, clauseCount);
      System.arraycopy(sumFrom, 0, copy.sumFrom, 0, clauseCount);
      System.arraycopy(testFrom, 0, copy.testFrom, 0, clauseCount);
      System.arraycopy(testEnd, 0, copy.testEnd, 0, clauseCount);
      System.arraycopy(times, 0, copy.times, 0, clauseCount);
      copy.codeLength = codeLength;
      copy.clauseCount = clauseCount;
      return copy;
    }
  }

  /** Reads a TEXT of either language; its methods bear the names that the grammar has. */
  private static final class Parser {
    private static final int AT_END = 0;
    private static final int LETTERS = 1;
    private static final int DIGITS = 2;
    private static final int SIGN = 3;

    final Text text = new Text(CODE_ROOM, CLAUSE_ROOM);
    // FAULT of the latest TEXT that was read; NONE without.
    int faultPlace = NONE;
    // Held once for all methods; empty until there is a TAPE to read.
    private byte[] bytes = new byte[0];
    private int length = 0;
    private boolean forLaw = false;
    private int parts = 0;
    private int tokenKind = AT_END;
    private int tokenFrom = 0;
    private int tokenEnd = 0;

    boolean reads(byte[] tape, int many, boolean asLaw) {
      bytes = tape;
      length = Math.min(many, tape.length);
      forLaw = asLaw;
      parts = 0;
      tokenEnd = 0;
      faultPlace = NONE;
      text.codeLength = 0;
      text.clauseCount = 0;
      for (int i = 0; i < CLAUSE_ROOM; i++) {
        advance();
        if (!readClause()) return false;
        if (tokenKind == AT_END) return true;
        if (!isSign(';')) return fails();
      }
      advance();
      return fails();
    }

    private boolean fails() {
      faultPlace = tokenFrom;
      return false;
    }

    private void advance() {
      int at = tokenEnd;
      while (at < length && bytes[at] == ' ') at++;
      tokenFrom = at;
      tokenKind = kindAt(at);
      if (at < length) at++;
      if (tokenKind == LETTERS || tokenKind == DIGITS) {
        while (at < length && kindAt(at) == tokenKind) at++;
      }
      tokenEnd = at;
    }

    private int kindAt(int at) {
      if (at >= length) return AT_END;
      if (bytes[at] >= 'a' && bytes[at] <= 'z') return LETTERS;
      return bytes[at] >= '0' && bytes[at] <= '9' ? DIGITS : SIGN;
    }

    private boolean isSign(char sign) {
      return tokenKind == SIGN && bytes[tokenFrom] == sign;
    }

    private boolean isWord(String wanted) {
      return tokenKind == LETTERS && isSpelt(wanted, 0, wanted.length());
    }

    private boolean isSpelt(String list, int from, int to) {
      if (tokenEnd - tokenFrom != to - from) return false;
      for (int i = from; i < to; i++) {
        if (list.charAt(i) != bytes[tokenFrom + i - from]) return false;
      }
      return true;
    }

    /** Which of the words in a list, with a blank between each two, the TOKEN is. */
    private int placeIn(String list) {
      if (tokenKind != LETTERS) return NONE;
      int place = 0;
      int from = 0;
      for (int i = 0; i <= list.length(); i++) {
        if (i < list.length() && list.charAt(i) != ' ') continue;
        if (isSpelt(list, from, i)) return place;
        place++;
        from = i + 1;
      }
      return NONE;
    }

    private int numberTo(int most) {
      if (tokenKind != DIGITS) return NONE;
      int value = 0;
      for (int i = tokenFrom; i < tokenEnd; i++) {
        value = Math.min(LARGEST_NUMBER + 1, 10 * value + bytes[i] - '0');
      }
      return value <= most ? value : NONE;
    }

    private boolean readClause() {
      int kind = placeIn(forLaw ? LAW_CLAUSES : SETTING_CLAUSES);
      if (kind == NONE) return fails();
      advance();
      int from = text.codeLength;
      boolean withSum = forLaw ? kind != BARS : kind == SET || kind == RESIZE;
      if (withSum && !readSum(0)) return false;
      int often = 1;
      if (!forLaw && isWord("times")) {
        advance();
        often = numberTo(MOST_TIMES);
        if (often < 1) return fails();
        advance();
      }
      int test = text.codeLength;
      if (isWord("if")) {
        advance();
        if (!readTest(0)) return false;
      }
      return text.addClause(kind, from, test, often) || fails();
    }

    private boolean readTest(int depth) {
      if (!readBoth(depth)) return false;
      for (int i = 0; i < TAPE_ROOM && isWord("or"); i++) {
        int skip = text.codeLength;
        if (!text.addStep(STEP_SKIP_IF_SO, 0)) return fails();
        advance();
        if (!readBoth(depth)) return false;
        text.skipToHere(skip);
      }
      return true;
    }

    private boolean readBoth(int depth) {
      if (!readPlain(depth)) return false;
      for (int i = 0; i < TAPE_ROOM && isWord("and"); i++) {
        int skip = text.codeLength;
        if (!text.addStep(STEP_SKIP_IF_NOT, 0)) return fails();
        advance();
        if (!readPlain(depth)) return false;
        text.skipToHere(skip);
      }
      return true;
    }

    private boolean readPlain(int depth) {
      boolean turned = false;
      // A hundred of them may follow one another, so they are counted, not gone down into.
      for (int i = 0; i < TAPE_ROOM && isWord("not"); i++) {
        turned = !turned;
        advance();
      }
      if (isSign('(')) {
        if (depth >= BRACKET_ROOM) return fails();
        advance();
        if (!readTest(depth + 1)) return false;
        if (!isSign(')')) return fails();
        advance();
      } else {
        if (!readSum(depth)) return false;
        int step = signStep("<>=", STEP_LESS);
        if (step == NONE) return fails();
        advance();
        if (!readSum(depth)) return false;
        if (!text.addStep(step, 0)) return fails();
      }
      return !turned || text.addStep(STEP_NOT, 0) || fails();
    }

    private boolean readSum(int depth) {
      if (!readTerm(depth)) return false;
      int step = signStep("+-", STEP_PLUS);
      for (int i = 0; i < TAPE_ROOM && step != NONE; i++) {
        advance();
        if (!readTerm(depth)) return false;
        if (!text.addStep(step, 0)) return fails();
        step = signStep("+-", STEP_PLUS);
      }
      return true;
    }

    private boolean readTerm(int depth) {
      if (!readPart(depth)) return false;
      int step = signStep("*/%", STEP_BY);
      for (int i = 0; i < TAPE_ROOM && step != NONE; i++) {
        advance();
        if (!readPart(depth)) return false;
        if (!text.addStep(step, 0)) return fails();
        step = signStep("*/%", STEP_BY);
      }
      return true;
    }

    /** The step of a sign: those of signs in one row follow one another. */
    private int signStep(String signs, int first) {
      if (tokenKind != SIGN) return NONE;
      for (int i = 0; i < signs.length(); i++) {
        if (bytes[tokenFrom] == signs.charAt(i)) return first + i;
      }
      return NONE;
    }

    private boolean readPart(int depth) {
      if (isSign('[')) {
        if (depth >= BRACKET_ROOM) return fails();
        advance();
        if (!readSum(depth + 1)) return false;
        if (!isSign(']')) return fails();
        advance();
        return true;
      }
      if (parts >= PART_ROOM) return fails();
      parts++;
      int number = numberTo(LARGEST_NUMBER);
      if (number == NONE) return readFact();
      advance();
      return text.addStep(STEP_NUMBER, number) || fails();
    }

    private boolean readFact() {
      int fact = placeIn(forLaw ? LAW_WORDS : SETTING_WORDS);
      if (fact == NONE) return fails();
      advance();
      if (!forLaw && fact >= FACT_BROAD) {
        int word = numberTo(WORD_ROOM - 1);
        if (word == NONE) return fails();
        advance();
        fact = (fact == FACT_BROAD ? FACT_BROAD : FACT_SENSE) + word;
      }
      return text.addStep(STEP_FACT, fact) || fails();
    }
  }

  /** Goes through the steps of one SUM or TEST. */
  private static final class Reckoner {
    final int[] facts = new int[FACT_ROOM];
    // Each NUMBER or word comes on it once at most, and there are 50 at most.
    private final int[] pile = new int[PART_ROOM + 2];
    int value = 0;

    /** Leaves the value (of a TEST 1, 0); false if it is BROKEN. */
    boolean reckon(Text text, int from, int to) {
      int high = 0;
      int end = Math.min(to, text.codeLength);
      for (int at = Math.max(0, from); at + 1 < end; at += 2) {
        int step = text.code[at];
        int number = text.code[at + 1];
        if (step <= STEP_FACT) {
          if (high >= pile.length) return false;
          pile[high] = step == STEP_FACT ? factAt(number) : number;
          high++;
        } else if (step <= STEP_SAME) {
          if (high < 2) return false;
          long joined = join(step, pile[high - 2], pile[high - 1]);
          if (joined > LIMIT || joined < -LIMIT) return false;
          high--;
          pile[high - 1] = (int) joined;
        } else {
          if (high < 1) return false;
          boolean so = pile[high - 1] != 0;
          if (step == STEP_NOT) {
            pile[high - 1] = so ? 0 : 1;
          } else if (so == (step == STEP_SKIP_IF_SO)) {
            at += Math.max(0, number);
          } else {
            high--;
          }
        }
      }
      if (high != 1) return false;
      value = pile[0];
      return true;
    }

    private int factAt(int number) {
      return number >= 0 && number < FACT_ROOM ? facts[number] : NONE;
    }

    /** Beyond the LIMIT, if it is divided by 0. */
    private static long join(int step, long one, long other) {
      switch (step) {
        case STEP_PLUS: return one + other;
        case STEP_MINUS: return one - other;
        case STEP_BY: return one * other;
        case STEP_PARTED: return other == 0 ? LIMIT + 1 : one / other;
        case STEP_REST: return other == 0 ? LIMIT + 1 : one % other;
        case STEP_LESS: return one < other ? 1 : 0;
        case STEP_MORE: return one > other ? 1 : 0;
        default: return one == other ? 1 : 0;
      }
    }
  }

  /** What the LAW in FORCE says of WORDS and LINES. */
  private static final class Judge {
    private final Desk desk;
    private final Reckoner reckoner;

    Judge(Desk desk, Reckoner reckoner) {
      this.desk = desk;
      this.reckoner = reckoner;
    }

    int lossOf(int word, int size) {
      tellWord(word, size);
      return findHolding(LOSES) ? nearestCost(reckoner.value) : desk.words.losses[word];
    }

    boolean isBarred(int word, int size) {
      tellWord(word, size);
      return findHolding(BARS);
    }

    int costOf(int line, int white, int many, boolean alike, boolean echo) {
      int[] facts = reckoner.facts;
      for (int i = 0; i <= FACT_LENGTH; i++) facts[i] = NONE;
      facts[FACT_LINE] = line;
      facts[FACT_LINE + 1] = white;
      facts[FACT_LINE + 2] = many;
      facts[FACT_LINE + 3] = alike ? 1 : 0;
      facts[FACT_ECHO] = echo ? 1 : 0;
      tellAlways(desk.size);
      if (findHolding(COSTS)) return nearestCost(reckoner.value);
      return Math.max(0, white) + (alike ? 20 : 0);
    }

    /** Of a LINE of the HEAD; 0 if it has no WORDS. */
    int headLineCost(int line) {
      int many = desk.head.manyIn(line);
      if (many == 0) return 0;
      int white = desk.hairs - desk.lineWidth(line);
      return costOf(line, white, many, desk.isAlike(line), desk.isEcho(line));
    }

    private static int nearestCost(int told) {
      return Math.max(0, Math.min(999, told));
    }

    private void tellWord(int word, int size) {
      int[] facts = reckoner.facts;
      facts[0] = word;
      facts[1] = desk.words.senses[word];
      facts[2] = desk.words.losses[word];
      facts[3] = desk.words.truths[word];
      facts[FACT_LENGTH] = desk.words.lengths[word];
      for (int i = FACT_LINE; i <= FACT_ECHO; i++) facts[i] = NONE;
      tellAlways(size);
    }

    private void tellAlways(int size) {
      reckoner.facts[FACT_SIZE] = size;
      reckoner.facts[FACT_DAY] = desk.dayAndMood[0];
      reckoner.facts[FACT_MOOD] = desk.dayAndMood[1];
    }

    /** The last CLAUSE of a kind that HOLDS, if there is one; the reckoner has its SUM then. */
    private boolean findHolding(int kind) {
      if (desk.inForce < 0 || desk.inForce >= desk.lawCount) return false;
      Text law = desk.laws[desk.inForce];
      if (law == null) return false;
      for (int i = law.clauseCount - 1; i >= 0; i--) {
        if (law.kinds[i] != kind) continue;
        if (law.hasTest(i)) {
          boolean whole = reckoner.reckon(law, law.testFrom[i], law.testEnd[i]);
          if (!whole || reckoner.value == 0) continue;
        }
        if (!law.hasSum(i) || reckoner.reckon(law, law.sumFrom[i], law.testFrom[i])) return true;
      }
      return false;
    }
  }

  /** ROWS for the SAYING, and what one LINE says most. */
  private static final class Rows {
    private static final long NO_ROW = 1L << 60;

    private final Desk desk;
    private final Judge judge;
    private final int[] widths = new int[WORD_ROOM];
    private final int[] losses = new int[WORD_ROOM];
    // For each place the WORDS that may stand there, and how broad the narrowest is (NONE: none).
    private final int[] choices = new int[SAYING_ROOM * WORDS_OF_A_SENSE];
    private final int[] choiceCounts = new int[SAYING_ROOM];
    private final int[] narrowest = new int[SAYING_ROOM];
    // The best that can follow, if a LINE begins at a place with a choice, ALIKE or not.
    private final long[] tails = new long[SAYING_ROOM * LINE_ROOM * WORDS_OF_A_SENSE * 2];
    private final int[] tailWays = new int[SAYING_ROOM * LINE_ROOM];
    private int places = 0;
    private int blank = 0;
    private int start = 0;
    private int line = 0;
    private int first = 0;
    private boolean alike = false;
    private int solvedAt = NONE;
    long best = NO_ROW;
    int ways = 0;
    int truth = NONE;
    long truestRow = NO_ROW;

    Rows(Desk desk, Judge judge) {
      this.desk = desk;
      this.judge = judge;
    }

    /** Finds BEST and the TRUEST, unless nothing has changed since it did. */
    void solve(int changes) {
      if (solvedAt == changes) return;
      solvedAt = changes;
      prepare(desk.size);
      best = NO_ROW;
      ways = 0;
      truth = NONE;
      if (!hasRow()) return;
      for (int place = places - 1; place > 0; place--) {
        for (int i = 1; i <= place && i < desk.lines; i++) fillTails(place, i);
      }
      fillTails(0, 0);
      ways = tailWays[0];
      best = leastTail(0, 0, NONE);
      seekTruest(0, 1, NONE, 0, 0);
      if (truth != NONE) truestRow += costKey(rowCost(truestRow));
    }

    private void prepare(int size) {
      places = desk.sayingCount;
      blank = desk.letterWidth(BLANK, size);
      for (int place = 0; place < places; place++) {
        choiceCounts[place] = 0;
        narrowest[place] = NONE;
      }
      for (int word = 0; word < desk.words.count; word++) {
        if (judge.isBarred(word, size)) continue;
        widths[word] = desk.wordWidth(word, size);
        losses[word] = judge.lossOf(word, size);
        for (int place = 0; place < places; place++) {
          if (desk.saying[place] == desk.words.senses[word]) addChoice(place, word);
        }
      }
    }

    private void addChoice(int place, int word) {
      if (choiceCounts[place] >= WORDS_OF_A_SENSE) return;
      choices[place * WORDS_OF_A_SENSE + choiceCounts[place]] = word;
      choiceCounts[place]++;
      if (narrowest[place] == NONE || widths[word] < narrowest[place]) {
        narrowest[place] = widths[word];
      }
    }

    private boolean hasRow() {
      for (int place = 0; place < places; place++) {
        if (choiceCounts[place] == 0) return false;
      }
      return places > 0;
    }

    private static int tailPlace(int place, int line, int choice, boolean alike) {
      return ((place * LINE_ROOM + line) * WORDS_OF_A_SENSE + choice) * 2 + (alike ? 1 : 0);
    }

    // From the last place to the first, so that what can follow a LINE is known before it.
    private void fillTails(int place, int atLine) {
      start = place;
      line = atLine;
      tailWays[place * LINE_ROOM + atLine] = 0;
      long turn = place == 0 ? 0 : turnKey(place);
      for (int i = 0; i < choiceCounts[place]; i++) {
        first = choices[place * WORDS_OF_A_SENSE + i];
        boolean echo = first == desk.nextDoor[atLine];
        for (int pass = 0; pass < 2; pass++) {
          alike = pass == 1;
          best = NO_ROW;
          long key = turn + choiceKey(place, first);
          if (!alike || atLine > 0) spread(place, widths[first], key, echo);
          tails[tailPlace(place, atLine, i, alike)] = best;
        }
      }
    }

    private long choiceKey(int place, int word) {
      return costKey(losses[word]) + wordKey(place, word);
    }

    /** The LINE goes as far as this place: it may end here, or go on with each choice. */
    private void spread(int place, int width, long key, boolean echo) {
      if (width > desk.hairs || place >= places) return;
      int next = place + 1;
      int follow = waysBehind(next);
      if (follow > 0) {
        if (!alike) tailWays[start * LINE_ROOM + line] += follow;
        int cost = judge.costOf(line, desk.hairs - width, next - start, alike, echo);
        long tail = next == places ? 0 : leastTail(next, line + 1, first);
        best = Math.min(best, key + costKey(cost) + tail);
      }
      if (next == places) return;
      for (int i = 0; i < choiceCounts[next]; i++) {
        int word = choices[next * WORDS_OF_A_SENSE + i];
        boolean echoes = echo || word == desk.nextDoor[line];
        spread(next, width + blank + widths[word], key + choiceKey(next, word), echoes);
      }
    }

    private int waysBehind(int next) {
      if (next == places) return 1;
      return line + 1 < desk.lines ? tailWays[next * LINE_ROOM + line + 1] : 0;
    }

    private long leastTail(int place, int atLine, int above) {
      long least = NO_ROW;
      for (int i = 0; i < choiceCounts[place]; i++) {
        int word = choices[place * WORDS_OF_A_SENSE + i];
        boolean same = above != NONE && desk.words.beginAlike(above, word);
        least = Math.min(least, tails[tailPlace(place, atLine, i, same)]);
      }
      return least;
    }

    // A WORD stays in its LINE as long as it FITS: if the WORDS can FIT at all, they do so, and
    // of their TURNS these come first. Nothing stands yet at LINE NONE.
    private void seekTruest(int place, int product, int atLine, int width, long key) {
      if (place >= places) {
        if (product <= truth) return;
        truth = product;
        truestRow = key;
        return;
      }
      for (int i = 0; i < choiceCounts[place]; i++) {
        int word = choices[place * WORDS_OF_A_SENSE + i];
        int more = product * desk.words.truths[word];
        long row = key + wordKey(place, word);
        int longer = width + blank + widths[word];
        if (place > 0 && longer <= desk.hairs) {
          seekTruest(place + 1, more, atLine, longer, row);
        } else if (widths[word] <= desk.hairs && atLine + 1 < desk.lines) {
          long turn = place == 0 ? 0 : turnKey(place);
          seekTruest(place + 1, more, atLine + 1, widths[word], row + turn);
        }
      }
    }

    private int rowCost(long row) {
      int cost = 0;
      int from = 0;
      int atLine = 0;
      int above = NONE;
      for (int place = 0; place < places; place++) {
        cost += losses[wordIn(row, place)];
        if (place + 1 < places && !turnsIn(row, place + 1)) continue;
        cost += rowLineCost(row, from, place + 1, atLine, above);
        above = wordIn(row, from);
        from = place + 1;
        atLine++;
      }
      return cost;
    }

    private int rowLineCost(long row, int from, int to, int atLine, int above) {
      int width = (to - from - 1) * blank;
      boolean echo = false;
      for (int place = from; place < to; place++) {
        int word = wordIn(row, place);
        width += widths[word];
        echo = echo || word == desk.nextDoor[atLine];
      }
      boolean same = above != NONE && desk.words.beginAlike(above, wordIn(row, from));
      return judge.costOf(atLine, desk.hairs - width, to - from, same, echo);
    }

    /** How broad the broadest LINE is, where that is least; NONE if there is no ROW. */
    int narrowestColumn(int size) {
      prepare(size);
      if (!hasRow()) return NONE;
      int least = broadestLine(0);
      for (int turns = 2; turns < 1 << places; turns += 2) {
        if (Integer.bitCount(turns) < desk.lines) least = Math.min(least, broadestLine(turns));
      }
      return least;
    }

    private int broadestLine(int turns) {
      int broadest = 0;
      int width = 0;
      for (int place = 0; place < places; place++) {
        boolean begins = place == 0 || (turns >> place & 1) == 1;
        width = begins ? narrowest[place] : width + blank + narrowest[place];
        broadest = Math.max(broadest, width);
      }
      return broadest;
    }

    /** Which places are said in one LINE so broad, as bits. */
    int mostWorth(int hairs) {
      prepare(desk.size);
      int found = 0;
      for (int bits = 1; bits < 1 << places; bits++) {
        int width = widthOf(bits);
        if (width != NONE && width <= hairs && worthOf(bits) > worthOf(found)) found = bits;
      }
      return found;
    }

    int worthOf(int bits) {
      int worth = 0;
      for (int place = 0; place < places; place++) {
        if ((bits >> place & 1) == 1) worth += desk.worths[desk.saying[place]];
      }
      return worth;
    }

    /** NONE, if there is no WORD for one of the places. */
    int widthOf(int bits) {
      int width = Math.max(0, Integer.bitCount(bits) - 1) * blank;
      for (int place = 0; place < places; place++) {
        if ((bits >> place & 1) == 0) continue;
        if (narrowest[place] == NONE) return NONE;
        width += narrowest[place];
      }
      return width;
    }
  }

  /** Which MATTERS the EDITION has. */
  private static final class Edition {
    private final int[] order = new int[MATTER_ROOM];
    private int count = 0;
    int worth = 0;
    int bits = 0;
    int minutes = 0;

    void choose(Desk desk) {
      sort(desk);
      worth = 0;
      bits = 0;
      minutes = 0;
      for (int some = 1; some < 1 << count; some++) weigh(desk, some);
    }

    private void sort(Desk desk) {
      count = desk.matterCount;
      for (int number = 0; number < count; number++) {
        int at = number;
        while (at > 0 && desk.dues[order[at - 1]] > desk.dues[number]) {
          order[at] = order[at - 1];
          at--;
        }
        order[at] = number;
      }
    }

    private void weigh(Desk desk, int some) {
      int together = 0;
      int time = 0;
      for (int i = 0; i < count; i++) {
        int number = order[i];
        if ((some >> number & 1) == 0) continue;
        time += desk.minutes[number];
        if (time > desk.dues[number]) return;
        together += desk.matterWorths[number];
      }
      if (together <= worth) return;
      worth = together;
      bits = some;
      minutes = time;
    }

    int inOrder(int i) {
      int found = 0;
      for (int k = 0; k < count; k++) {
        if ((bits >> order[k] & 1) == 0) continue;
        if (found == i) return order[k];
        found++;
      }
      return NONE;
    }
  }

  /** The latest READERS. */
  private static final class Audience {
    final int[] believed = new int[HEAD_ROOM];
    int count = 0;

    /** Answers how many believe all. */
    int read(Desk desk, int seed, int many) {
      Head head = desk.head;
      count = head.count;
      for (int i = 0; i < count; i++) believed[i] = 0;
      int all = 0;
      int s = seed;
      for (int reader = 0; reader < many; reader++) {
        boolean whole = true;
        for (int i = 0; i < count; i++) {
          s = (s * 1103 + 12345) % 1000003;
          boolean believes = s % 10 < desk.words.truths[head.words[i]];
          if (believes) believed[i]++;
          whole = whole && believes;
        }
        if (whole) all++;
      }
      return all;
    }
  }
}
