import java.util.ArrayList;
import java.util.Arrays;
import java.util.List;

/**
 * The same promises as HeadFits has, kept in the plainest way (all ROWS are tried, all state is
 * copied), for comparing the two over random runs. It shares no code with it.
 */
final class PlainHeads {
  private record Word(String letters, int sense, int loss, int truth) {}

  private record Placed(int word, int line) {}

  private record Undo(int kind, List<Placed> head, int lineNow) {}

  private record Matter(int minutes, int due, int worth) {}

  /** All that IMAGES keep. */
  private static final class State {
    int[] breadths = new int[27];
    int hairs = 100;
    int lines = 3;
    int size = 0;
    int[] worths = new int[8];
    int[] terms = new int[2];
    List<Word> words = new ArrayList<>();
    List<List<PlainText.Clause>> laws = new ArrayList<>();
    int force = -1;
    List<Integer> saying = new ArrayList<>();
    int[] beside = {-1, -1, -1, -1};
    List<Placed> head = new ArrayList<>();
    int lineNow = 0;
    List<int[]> seen = new ArrayList<>();
    List<Matter> matters = new ArrayList<>();

    State() {
      Arrays.fill(breadths, 10);
      breadths[26] = 5;
      Arrays.fill(worths, 1);
    }

    State copy() {
      State s = new State();
      s.breadths = breadths.clone();
      s.hairs = hairs;
      s.lines = lines;
      s.size = size;
      s.worths = worths.clone();
      s.terms = terms.clone();
      s.words = new ArrayList<>(words);
      s.laws = new ArrayList<>(laws);
      s.force = force;
      s.saying = new ArrayList<>(saying);
      s.beside = beside.clone();
      s.head = new ArrayList<>(head);
      s.lineNow = lineNow;
      s.seen = new ArrayList<>(seen);
      s.matters = new ArrayList<>(matters);
      return s;
    }
  }

  private State s = new State();
  private final State[] images = new State[2];
  private List<Undo> undos = new ArrayList<>();
  private final List<Integer> tape = new ArrayList<>();
  private int fault = -1;
  private int stopped = -1;
  private int status = 0;
  private final int[] refused = new int[7];
  private int[] believed = new int[0];

  private int no(int why) {
    status = why;
    refused[-why]++;
    return why;
  }

  private int yes(int answer) {
    status = 0;
    return answer;
  }

  private static boolean in(int v, int a, int b) {
    return a <= v && v <= b;
  }

  int breadth(int letter, int hairs) {
    if (!in(letter, 0, 26) || !in(hairs, 1, 20)) return no(-1);
    int was = s.breadths[letter];
    s.breadths[letter] = hairs;
    undos.clear();
    return yes(was);
  }

  int column(int hairs, int lines) {
    if (!in(hairs, 10, 400) || !in(lines, 1, 4)) return no(-1);
    if (!s.head.isEmpty()) return no(-3);
    s.hairs = hairs;
    s.lines = lines;
    undos.clear();
    return yes(0);
  }

  private int trySize(int value) {
    if (!in(value, 0, 2)) return -1;
    if (!s.head.isEmpty()) return -3;
    int was = s.size;
    s.size = value;
    undos.clear();
    return was;
  }

  int size(int value) {
    int answer = trySize(value);
    return answer < 0 ? no(answer) : yes(answer);
  }

  int worth(int sense, int value) {
    if (!in(sense, 0, 7) || !in(value, 0, 99)) return no(-1);
    int was = s.worths[sense];
    s.worths[sense] = value;
    return yes(was);
  }

  int terms(int what, int value) {
    if (what == 0 && in(value, 0, 999) || what == 1 && in(value, 0, 9)) {
      int was = s.terms[what];
      s.terms[what] = value;
      return yes(was);
    }
    return no(-1);
  }

  int feed(int a, int b, int c, int d, int e) {
    if (tape.size() > 380) return -1;
    for (int n : new int[] {a, b, c, d, e}) {
      for (int i = 3; i >= 0; i--) tape.add(n >> 8 * i & 255);
    }
    return tape.size();
  }

  int end(int n) {
    if (!in(n, 0, tape.size())) return -1;
    while (tape.size() > n) tape.remove(tape.size() - 1);
    return n;
  }

  private String takeTape() {
    StringBuilder text = new StringBuilder();
    for (int b : tape) text.append((char) b);
    tape.clear();
    return text.toString();
  }

  int word(int sense, int loss, int truth) {
    if (!in(sense, 0, 7) || !in(loss, 0, 99) || !in(truth, 0, 10)) return no(-1);
    String text = takeTape();
    if (s.words.stream().filter(w -> w.sense == sense).count() == 3) return no(-3);
    if (s.words.size() == 16) return no(-5);
    if (!text.matches("[a-z]{1,9}")) return no(-6);
    s.words.add(new Word(text, sense, loss, truth));
    return yes(s.words.size() - 1);
  }

  private int broad(int letter, int size) {
    return s.breadths[letter] * (size + 2) / 2;
  }

  private int broadWord(int word, int size) {
    int sum = 0;
    for (char c : s.words.get(word).letters.toCharArray()) sum += broad(c - 'a', size);
    return sum;
  }

  private int broadLine(List<Integer> words, int size) {
    int sum = 0;
    for (int w : words) sum += broadWord(w, size);
    return words.isEmpty() ? 0 : sum + (words.size() - 1) * broad(26, size);
  }

  private Integer held(String kind, PlainText.World world) {
    Integer last = null;
    if (s.force == -1) return null;
    for (PlainText.Clause c : s.laws.get(s.force)) {
      if (!c.kind.equals(kind)) continue;
      try {
        if (c.test != null && !c.test.isSo(world)) continue;
        last = c.sum == null ? 1 : (int) c.sum.value(world);
      } catch (PlainText.Broken broken) {
        continue;
      }
    }
    return last;
  }

  private PlainText.World ofWord(int word, int size) {
    Word w = s.words.get(word);
    return (name, none) -> {
      switch (name) {
        case "word": return word;
        case "sense": return w.sense;
        case "loss": return w.loss;
        case "truth": return w.truth;
        case "length": return w.letters.length();
        case "size": return size;
        case "day": return s.terms[0];
        case "mood": return s.terms[1];
        default: return -1;
      }
    };
  }

  private int loses(int word) {
    Integer sum = held("loses", ofWord(word, s.size));
    return sum == null ? s.words.get(word).loss : Math.max(0, Math.min(999, sum));
  }

  private boolean barred(int word, int size) {
    return held("bars", ofWord(word, size)) != null;
  }

  private boolean alike(List<List<Integer>> lines, int line) {
    if (line == 0 || lines.get(line).isEmpty()) return false;
    char one = s.words.get(lines.get(line).get(0)).letters.charAt(0);
    return one == s.words.get(lines.get(line - 1).get(0)).letters.charAt(0);
  }

  private int lineCosts(List<List<Integer>> lines, int line) {
    List<Integer> own = lines.get(line);
    if (own.isEmpty()) return 0;
    int white = s.hairs - broadLine(own, s.size);
    boolean alike = alike(lines, line);
    Integer sum = held("costs", (name, none) -> {
      switch (name) {
        case "line": return line;
        case "white": return white;
        case "many": return own.size();
        case "alike": return alike ? 1 : 0;
        case "echo": return own.contains(s.beside[line]) ? 1 : 0;
        case "size": return s.size;
        case "day": return s.terms[0];
        case "mood": return s.terms[1];
        default: return -1;
      }
    });
    if (sum != null) return Math.max(0, Math.min(999, sum));
    return Math.max(0, white) + (alike ? 20 : 0);
  }

  private int costs(List<List<Integer>> lines) {
    int sum = 0;
    for (int i = 0; i < lines.size(); i++) {
      for (int w : lines.get(i)) sum += loses(w);
      sum += lineCosts(lines, i);
    }
    return sum;
  }

  int at(int word, int what) {
    if (!in(word, 0, s.words.size() - 1) || !in(what, 0, 7)) return -1;
    Word w = s.words.get(word);
    return new int[] {w.sense, w.loss, w.truth, w.letters.length(), broadWord(word, s.size),
      w.letters.charAt(0) - 'a', loses(word), barred(word, s.size) ? 1 : 0}[what];
  }

  private List<PlainText.Clause> readTape(boolean law) {
    String text = takeTape();
    try {
      List<PlainText.Clause> clauses = PlainText.read(text, law);
      fault = -1;
      return clauses;
    } catch (PlainText.Fault f) {
      fault = f.place;
      return null;
    }
  }

  int law() {
    if (s.laws.size() == 6) {
      tape.clear();
      return no(-5);
    }
    List<PlainText.Clause> clauses = readTape(true);
    if (clauses == null) return no(-6);
    s.laws.add(clauses);
    return yes(s.laws.size() - 1);
  }

  int settings() {
    stopped = -1;
    List<PlainText.Clause> clauses = readTape(false);
    if (clauses == null) return no(-6);
    State before = s.copy();
    List<Undo> undosBefore = new ArrayList<>(undos);
    int done = 0;
    for (int i = 0; i < clauses.size(); i++) {
      for (int t = 0; t < clauses.get(i).times; t++) {
        int answer = run(clauses.get(i), done);
        if (answer < 0) {
          s = before;
          undos = undosBefore;
          stopped = i;
          return no(answer == -5 ? -5 : -3);
        }
        done += answer;
      }
    }
    return yes(done);
  }

  private int run(PlainText.Clause c, int done) {
    PlainText.World world = (name, w) -> {
      switch (name) {
        case "words": return s.head.size();
        case "line": return s.lineNow;
        case "left": return s.hairs - broadLine(headLines().get(s.lineNow), s.size);
        case "done": return done;
        case "size": return s.size;
        case "broad": return w < s.words.size() ? broadWord(w, s.size) : -1;
        default: return w < s.words.size() ? s.words.get(w).sense : -1;
      }
    };
    try {
      if (c.test != null && !c.test.isSo(world)) return 0;
    } catch (PlainText.Broken broken) {
      return 0;
    }
    int answer;
    try {
      int value = c.sum == null ? 0 : (int) c.sum.value(world);
      answer = c.kind.equals("set") ? trySet(value) : c.kind.equals("turn") ? tryTurn()
          : c.kind.equals("clear") ? tryClear() : trySize(value);
    } catch (PlainText.Broken broken) {
      return -3;
    }
    return answer < 0 ? answer : 1;
  }

  int fault() {
    return fault;
  }

  int stopped() {
    return stopped;
  }

  int force(int law) {
    if (!in(law, -1, s.laws.size() - 1)) return no(-2);
    int was = s.force;
    s.force = law;
    return yes(was);
  }

  int say(int sense) {
    if (!in(sense, 0, 7)) return no(-1);
    if (s.saying.size() == 6) return no(-5);
    s.saying.add(sense);
    return yes(s.saying.size());
  }

  int hush() {
    int was = s.saying.size();
    s.saying.clear();
    return was;
  }

  int beside(int line, int word) {
    if (!in(line, 0, 3)) return no(-1);
    if (!in(word, -1, s.words.size() - 1)) return no(-2);
    int was = s.beside[line];
    s.beside[line] = word;
    return yes(was);
  }

  private List<List<Integer>> headLines() {
    List<List<Integer>> lines = new ArrayList<>();
    for (int i = 0; i < 4; i++) lines.add(new ArrayList<>());
    for (Placed p : s.head) lines.get(p.line).add(p.word);
    return lines;
  }

  private void remember(int kind) {
    undos.add(new Undo(kind, new ArrayList<>(s.head), s.lineNow));
    if (undos.size() > 16) undos.remove(0);
  }

  private int trySet(int word) {
    if (!in(word, 0, s.words.size() - 1)) return -2;
    List<Integer> line = headLines().get(s.lineNow);
    line.add(word);
    int left = s.hairs - broadLine(line, s.size);
    if (barred(word, s.size) || left < 0) return -3;
    if (s.head.size() == 12) return -5;
    remember(0);
    s.head.add(new Placed(word, s.lineNow));
    return left;
  }

  int set(int word) {
    int answer = trySet(word);
    return answer < 0 ? no(answer) : yes(answer);
  }

  private int tryTurn() {
    if (headLines().get(s.lineNow).isEmpty() || s.lineNow == s.lines - 1) return -3;
    remember(1);
    return ++s.lineNow;
  }

  int turn() {
    int answer = tryTurn();
    return answer < 0 ? no(answer) : yes(answer);
  }

  private int tryClear() {
    if (s.head.isEmpty()) return -3;
    remember(2);
    int was = s.head.size();
    s.head.clear();
    s.lineNow = 0;
    return was;
  }

  int clear() {
    int answer = tryClear();
    return answer < 0 ? no(answer) : yes(answer);
  }

  int head(int i, int what) {
    if (!in(i, 0, s.head.size() - 1) || !in(what, 0, 1)) return -1;
    return what == 0 ? s.head.get(i).word : s.head.get(i).line;
  }

  int line(int line, int what) {
    if (!in(line, 0, 3) || !in(what, 0, 4)) return -1;
    List<List<Integer>> lines = headLines();
    List<Integer> own = lines.get(line);
    switch (what) {
      case 0: return broadLine(own, s.size);
      case 1: return own.size();
      case 2: return lineCosts(lines, line);
      case 3: return alike(lines, line) ? 1 : 0;
      default: return own.contains(s.beside[line]) ? 1 : 0;
    }
  }

  int cost() {
    return costs(headLines());
  }

  int undo() {
    if (undos.isEmpty()) return no(-3);
    Undo u = undos.remove(undos.size() - 1);
    s.head = new ArrayList<>(u.head);
    s.lineNow = u.lineNow;
    return yes(u.kind);
  }

  /** All ROWS as WORDS, then TURNS, in the order that the document tells: WORDS, then TURNS. */
  private List<int[]> allRows(int size) {
    List<int[]> rows = new ArrayList<>();
    int n = s.saying.size();
    if (n == 0) return rows;
    addRows(rows, new int[n], 0, size);
    return rows;
  }

  private void addRows(List<int[]> rows, int[] words, int place, int size) {
    int n = words.length;
    if (place == n) {
      for (int turns = 0; turns < 1 << (n - 1); turns++) {
        if (Integer.bitCount(turns) + 1 > s.lines) continue;
        int[] row = Arrays.copyOf(words, 2 * n);
        for (int i = 1; i < n; i++) row[n + i] = turns >> (n - 1 - i) & 1;
        rows.add(row);
      }
      return;
    }
    for (int w = 0; w < s.words.size(); w++) {
      if (s.words.get(w).sense != s.saying.get(place) || barred(w, size)) continue;
      words[place] = w;
      addRows(rows, words, place + 1, size);
    }
  }

  private List<List<Integer>> rowLines(int[] row) {
    List<List<Integer>> lines = new ArrayList<>();
    int n = row.length / 2;
    for (int i = 0; i < n; i++) {
      if (i == 0 || row[n + i] == 1) lines.add(new ArrayList<>());
      lines.get(lines.size() - 1).add(row[i]);
    }
    return lines;
  }

  private int broadest(int[] row, int size) {
    int most = 0;
    for (List<Integer> line : rowLines(row)) most = Math.max(most, broadLine(line, size));
    return most;
  }

  private int told(int[] row, int what) {
    int n = row.length / 2;
    if (in(what, 3, 2 + n)) return row[what - 3];
    return in(what, 9, 8 + n) ? row[n + what - 9] : -1;
  }

  int fit(int what) {
    int[] best = null;
    int least = 0;
    int fitting = 0;
    for (int[] row : allRows(s.size)) {
      if (broadest(row, s.size) > s.hairs) continue;
      fitting++;
      int cost = costs(rowLines(row));
      if (best != null && cost >= least) continue;
      best = row;
      least = cost;
    }
    if (s.saying.isEmpty()) return -1;
    if (what == 1) return fitting;
    if (best == null) return -1;
    if (what == 0) return least;
    return what == 2 ? rowLines(best).size() : told(best, what);
  }

  int over() {
    int narrow = narrow();
    return narrow == -1 ? -1 : Math.max(0, narrow - s.hairs);
  }

  int narrow() {
    return allRows(s.size).stream().mapToInt(row -> broadest(row, s.size)).min().orElse(-1);
  }

  int largest() {
    for (int size = 2; size >= 0; size--) {
      int of = size;
      if (allRows(of).stream().anyMatch(row -> broadest(row, of) <= s.hairs)) return size;
    }
    return -1;
  }

  int truest(int what) {
    int[] best = null;
    int most = -1;
    int lower = 1;
    for (int i = 0; i < s.saying.size(); i++) lower *= 10;
    for (int[] row : allRows(s.size)) {
      if (broadest(row, s.size) > s.hairs) continue;
      int product = 1;
      for (int i = 0; i < row.length / 2; i++) product *= s.words.get(row[i]).truth;
      if (product <= most) continue;
      most = product;
      best = row;
    }
    if (best == null) return -1;
    int common = java.math.BigInteger.valueOf(most).gcd(java.math.BigInteger.valueOf(lower)).intValue();
    if (what == 0) return most / common;
    if (what == 1) return lower / common;
    return what == 2 ? costs(rowLines(best)) : told(best, what);
  }

  int says(int hairs, int what) {
    if (!in(hairs, 1, 400) || !in(what, 0, 2)) return -1;
    int[] best = {0, 0, 0};
    for (int bits = 0; bits < 1 << s.saying.size(); bits++) {
      List<Integer> line = new ArrayList<>();
      int worth = 0;
      boolean can = true;
      for (int i = 0; i < s.saying.size(); i++) {
        if ((bits >> i & 1) == 0) continue;
        int narrow = -1;
        for (int w = 0; w < s.words.size(); w++) {
          if (s.words.get(w).sense != s.saying.get(i) || barred(w, s.size)) continue;
          if (narrow == -1 || broadWord(w, s.size) < broadWord(narrow, s.size)) narrow = w;
        }
        if (narrow == -1) can = false;
        else line.add(narrow);
        worth += s.worths[s.saying.get(i)];
      }
      if (!can || broadLine(line, s.size) > hairs || worth <= best[0]) continue;
      best = new int[] {worth, bits, broadLine(line, s.size)};
    }
    return best[what];
  }

  int seen(int line, int hairs) {
    if (!in(line, 0, 3) || !in(hairs, 0, 999)) return no(-1);
    if (s.seen.size() == 4) return no(-5);
    s.seen.add(new int[] {line, hairs});
    return yes(s.seen.size());
  }

  int forget() {
    int was = s.seen.size();
    s.seen.clear();
    return was;
  }

  int changed(int i) {
    List<Integer> all = new ArrayList<>();
    for (int p = 0; p < s.head.size(); p++) {
      Placed was = s.head.get(p);
      for (int w = 0; w < s.words.size(); w++) {
        if (w == was.word || s.words.get(w).sense != s.words.get(was.word).sense) continue;
        s.head.set(p, new Placed(w, was.line));
        List<List<Integer>> lines = headLines();
        boolean as = true;
        for (int[] seen : s.seen) as &= broadLine(lines.get(seen[0]), s.size) == seen[1];
        if (as) all.add(16 * p + w);
        s.head.set(p, was);
      }
    }
    if (i == -1) return all.size();
    return in(i, 0, all.size() - 1) ? all.get(i) : -1;
  }

  int matter(int minutes, int due, int worth) {
    if (!in(minutes, 1, 99) || !in(due, 0, 999) || !in(worth, 1, 99)) return no(-1);
    if (s.matters.size() == 8) return no(-5);
    s.matters.add(new Matter(minutes, due, worth));
    return yes(s.matters.size() - 1);
  }

  int cancel() {
    int was = s.matters.size();
    s.matters.clear();
    return was;
  }

  int edition(int what) {
    int bestWorth = 0;
    int bestBits = 0;
    int bestTime = 0;
    List<Integer> bestOrder = new ArrayList<>();
    for (int bits = 0; bits < 1 << s.matters.size(); bits++) {
      List<Integer> order = new ArrayList<>();
      for (int i = 0; i < s.matters.size(); i++) if ((bits >> i & 1) == 1) order.add(i);
      order.sort((a, b) -> s.matters.get(a).due != s.matters.get(b).due
          ? Integer.compare(s.matters.get(a).due, s.matters.get(b).due) : Integer.compare(a, b));
      int time = 0;
      int worth = 0;
      boolean can = true;
      for (int m : order) {
        time += s.matters.get(m).minutes;
        worth += s.matters.get(m).worth;
        if (time > s.matters.get(m).due) can = false;
      }
      if (!can || worth <= bestWorth) continue;
      bestWorth = worth;
      bestBits = bits;
      bestTime = time;
      bestOrder = order;
    }
    if (what == 0) return bestWorth;
    if (what == 1) return bestBits;
    if (what == 2) return bestTime;
    return in(what - 3, 0, bestOrder.size() - 1) && what >= 3 ? bestOrder.get(what - 3) : -1;
  }

  int readers(int seed, int n) {
    if (!in(seed, 0, 1000000) || !in(n, 1, 100)) return no(-1);
    believed = new int[s.head.size()];
    long draw = seed;
    int all = 0;
    for (int r = 0; r < n; r++) {
      int believes = 0;
      for (int i = 0; i < believed.length; i++) {
        draw = (draw * 1103 + 12345) % 1000003;
        if (draw % 10 >= s.words.get(s.head.get(i).word).truth) continue;
        believed[i]++;
        believes++;
      }
      if (believes == believed.length) all++;
    }
    return yes(all);
  }

  int drawn(int i) {
    return in(i, 0, believed.length - 1) ? believed[i] : -1;
  }

  int image(int k) {
    if (!in(k, 0, 1)) return no(-1);
    images[k] = s.copy();
    return yes(0);
  }

  int back(int k) {
    if (!in(k, 0, 1)) return no(-1);
    if (images[k] == null) return no(-2);
    s = images[k].copy();
    undos.clear();
    return yes(0);
  }

  int count(int what) {
    int[] all = {s.words.size(), s.saying.size(), s.head.size(), s.seen.size(), s.matters.size(),
      s.laws.size(), undos.size(), tape.size(), refused[1], refused[2], refused[3], refused[5],
      refused[6], s.force, s.terms[0], s.terms[1], s.hairs, s.lines, s.size};
    return in(what, 0, 18) ? all[what] : -1;
  }

  int status() {
    return status;
  }
}
