import java.util.ArrayList;
import java.util.List;

/**
 * The two languages in the plainest way: a tree of parts that is asked afresh each time, for
 * comparing with HeadFits. It shares no code with it.
 */
final class PlainText {
  /** A SUM or TEST is BROKEN. */
  static final class Broken extends Exception {
    private static final long serialVersionUID = 1L;
  }

  /** A TOKEN can't go on. */
  static final class Fault extends Exception {
    private static final long serialVersionUID = 1L;
    final int place;

    Fault(int place) {
      this.place = place;
    }
  }

  /** Tells what a word is; w is NONE for one that has no W. */
  interface World {
    int tell(String word, int w);
  }

  interface Sum {
    long value(World world) throws Broken;
  }

  interface Test {
    boolean isSo(World world) throws Broken;
  }

  static final class Clause {
    String kind;
    Sum sum;
    Test test;
    int times = 1;
  }

  private static final List<String> LAW_WORDS = List.of(
      "word", "sense", "loss", "truth", "length", "line", "white", "many", "alike", "echo", "size",
      "day", "mood");
  private static final List<String> SETTING_WORDS =
      List.of("words", "line", "left", "done", "size", "broad", "sense");

  private final List<String> tokens = new ArrayList<>();
  private final List<Integer> places = new ArrayList<>();
  private final boolean law;
  private int at = 0;
  private int parts = 0;
  private int open = 0;

  private PlainText(String text, boolean law) {
    this.law = law;
    int i = 0;
    while (i < text.length()) {
      if (text.charAt(i) == ' ') {
        i++;
        continue;
      }
      int j = i + 1;
      String rest = text.substring(i);
      String row = rest.replaceFirst("(?s)^([a-z]+|[0-9]+|.).*", "$1");
      if (!row.isEmpty()) j = i + row.length();
      tokens.add(text.substring(i, j));
      places.add(i);
      i = j;
    }
    tokens.add("");
    places.add(text.length());
  }

  static List<Clause> read(String text, boolean law) throws Fault {
    PlainText reader = new PlainText(text, law);
    List<Clause> clauses = new ArrayList<>();
    clauses.add(reader.clause());
    while (reader.took(";")) {
      if (clauses.size() == 12) throw reader.fault();
      clauses.add(reader.clause());
    }
    if (!reader.token().isEmpty()) throw reader.fault();
    return clauses;
  }

  private Fault fault() {
    return new Fault(places.get(at));
  }

  private String token() {
    return tokens.get(at);
  }

  private boolean took(String wanted) {
    if (!token().equals(wanted)) return false;
    at++;
    return true;
  }

  private void need(String wanted) throws Fault {
    if (!took(wanted)) throw fault();
  }

  private int number(int least, int most) throws Fault {
    if (!token().matches("[0-9]+")) throw fault();
    java.math.BigInteger n = new java.math.BigInteger(token());
    if (n.compareTo(java.math.BigInteger.valueOf(most)) > 0) throw fault();
    if (n.compareTo(java.math.BigInteger.valueOf(least)) < 0) throw fault();
    at++;
    return n.intValue();
  }

  private Clause clause() throws Fault {
    Clause c = new Clause();
    c.kind = token();
    List<String> kinds =
        law ? List.of("loses", "costs", "bars") : List.of("set", "turn", "clear", "size");
    if (!kinds.contains(c.kind)) throw fault();
    at++;
    if (!List.of("bars", "turn", "clear").contains(c.kind)) c.sum = sum();
    if (!law && took("times")) c.times = number(1, 20);
    if (took("if")) c.test = test();
    return c;
  }

  private Test test() throws Fault {
    Test left = both();
    if (!took("or")) return left;
    List<Test> all = new ArrayList<>(List.of(left));
    do {
      all.add(both());
    } while (took("or"));
    return world -> {
      for (Test t : all) if (t.isSo(world)) return true;
      return false;
    };
  }

  private Test both() throws Fault {
    Test left = plain();
    if (!took("and")) return left;
    List<Test> all = new ArrayList<>(List.of(left));
    do {
      all.add(plain());
    } while (took("and"));
    return world -> {
      for (Test t : all) if (!t.isSo(world)) return false;
      return true;
    };
  }

  private Test plain() throws Fault {
    if (took("not")) {
      Test inner = plain();
      return world -> !inner.isSo(world);
    }
    if (token().equals("(")) {
      opens();
      Test inner = test();
      need(")");
      open--;
      return inner;
    }
    Sum one = sum();
    String sign = token();
    if (!took("<") && !took(">") && !took("=")) throw fault();
    Sum other = sum();
    return world -> {
      long a = one.value(world);
      long b = other.value(world);
      return sign.equals("<") ? a < b : sign.equals(">") ? a > b : a == b;
    };
  }

  private void opens() throws Fault {
    if (open == 8) throw fault();
    open++;
    at++;
  }

  private Sum sum() throws Fault {
    Sum all = term();
    while (token().equals("+") || token().equals("-")) {
      Sum left = all;
      boolean plus = token().equals("+");
      at++;
      Sum right = term();
      all = world -> {
        long a = left.value(world);
        long b = right.value(world);
        return limited(plus ? a + b : a - b);
      };
    }
    return all;
  }

  private Sum term() throws Fault {
    Sum all = part();
    while (token().equals("*") || token().equals("/") || token().equals("%")) {
      Sum left = all;
      String sign = token();
      at++;
      Sum right = part();
      all = world -> {
        long a = left.value(world);
        long b = right.value(world);
        if (sign.equals("*")) return limited(a * b);
        if (b == 0) throw new Broken();
        return sign.equals("/") ? a / b : a - a / b * b;
      };
    }
    return all;
  }

  private static long limited(long value) throws Broken {
    if (Math.abs(value) > 1000000000L) throw new Broken();
    return value;
  }

  private Sum part() throws Fault {
    if (token().equals("[")) {
      opens();
      Sum inner = sum();
      need("]");
      open--;
      return inner;
    }
    if (parts == 50) throw fault();
    parts++;
    if (token().matches("[0-9]+")) {
      int n = number(0, 1000);
      return world -> n;
    }
    String word = token();
    if (!(law ? LAW_WORDS : SETTING_WORDS).contains(word)) throw fault();
    at++;
    boolean withW = !law && (word.equals("broad") || word.equals("sense"));
    int w = withW ? number(0, 15) : -1;
    return world -> world.tell(word, w);
  }
}
