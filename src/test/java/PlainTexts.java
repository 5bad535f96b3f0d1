import java.util.Random;

/** Makes random texts of the two languages: most can be read, some are spoilt. */
final class PlainTexts {
  private static final String[] LAW_WORDS = {"word", "sense", "loss", "truth", "length", "line",
    "white", "many", "alike", "echo", "size", "day", "mood"};
  private static final String[] SETTING_WORDS = {"words", "line", "left", "done", "size"};
  private static final String[] TOKENS = {"if", "and", "or", "not", "(", ")", "[", "]", "+", "-",
    "*", "/", "%", "<", ">", "=", ";", "times", "loses", "costs", "bars", "set", "turn", "clear",
    "size", "1", "0", "7", "21", "1001", "broad", "sense", "word", "words", "A", "\t", ","};

  private final Random random;
  private final boolean law;
  private final StringBuilder out = new StringBuilder();

  PlainTexts(Random random, boolean law) {
    this.random = random;
    this.law = law;
  }

  private int r(int n) {
    return random.nextInt(n);
  }

  private void put(String token) {
    int end = out.length() - 1;
    boolean touch = end >= 0 && Character.isLetterOrDigit(out.charAt(end))
        && Character.isLetterOrDigit(token.charAt(0));
    if (touch || r(8) == 0) out.append(' ');
    out.append(token);
  }

  String text() {
    int kind = r(20);
    if (kind == 0) {
      for (int i = r(12); i > 0; i--) put(TOKENS[r(TOKENS.length)]);
    } else {
      int clauses = kind == 1 ? 10 + r(5) : 1 + r(4);
      for (int i = 0; i < clauses; i++) {
        if (i > 0) put(";");
        clause(kind == 2 ? 9 : kind == 1 ? 1 : 3);
      }
    }
    if (r(6) == 0) spoil();
    if (r(10) == 0) out.append("  ");
    if (out.length() > 380) out.setLength(380);
    return out.toString();
  }

  private void spoil() {
    int at = r(out.length() + 1);
    switch (r(3)) {
      case 0: out.insert(at, TOKENS[r(TOKENS.length)]); break;
      case 1: out.setLength(at); break;
      default: if (at < out.length()) out.deleteCharAt(at);
    }
  }

  private void clause(int depth) {
    if (law) {
      String[] kinds = {"loses", "costs", "costs", "bars"};
      String kind = kinds[r(4)];
      put(kind);
      if (!kind.equals("bars")) sum(depth);
      if (kind.equals("bars") || r(2) == 0) {
        put("if");
        if (kind.equals("bars") && r(2) == 0) {
          put("word%5=" + r(5));
        } else {
          test(depth);
        }
      }
      return;
    }
    String[] kinds = {"set", "set", "set", "turn", "clear", "size"};
    String kind = kinds[r(6)];
    put(kind);
    if (kind.equals("set")) {
      if (r(3) == 0) sum(depth); else put(Integer.toString(r(6)));
    }
    if (kind.equals("size")) {
      if (r(3) == 0) sum(depth); else put(Integer.toString(r(3)));
    }
    if (r(4) == 0) {
      put("times");
      put(Integer.toString(r(10) == 0 ? r(24) : 1 + r(4)));
    }
    if (kind.equals("clear") || r(3) == 0) {
      put("if");
      if (kind.equals("clear") && r(2) == 0) put("words>" + r(3)); else test(depth);
    }
  }

  private void test(int depth) {
    int many = r(3) == 0 ? 1 + r(3) : 1;
    for (int i = 0; i < many; i++) {
      if (i > 0) put(r(2) == 0 ? "or" : "and");
      while (r(4) == 0) put("not");
      if (depth > 0 && r(4) == 0) {
        put("(");
        test(depth - 1);
        put(")");
      } else {
        sum(depth - 1);
        put(r(3) == 0 ? "=" : r(2) == 0 ? "<" : ">");
        sum(depth - 1);
      }
    }
  }

  private void sum(int depth) {
    int many = r(2) == 0 ? 1 : 1 + r(4);
    String[] signs = {"+", "-", "*", "/", "%"};
    for (int i = 0; i < many; i++) {
      if (i > 0) put(signs[r(5)]);
      if (depth > 0 && r(5) == 0) {
        put("[");
        sum(depth - 1);
        put("]");
      } else {
        part();
      }
    }
  }

  private void part() {
    int kind = r(10);
    if (kind < 3) {
      put(Integer.toString(r(12)));
    } else if (kind == 3) {
      put(Integer.toString(r(30) == 0 ? 1001 : r(3) == 0 ? 1000 : r(1001)));
    } else if (law) {
      put(LAW_WORDS[r(LAW_WORDS.length)]);
    } else if (kind < 8) {
      put(SETTING_WORDS[r(SETTING_WORDS.length)]);
    } else {
      put(r(2) == 0 ? "broad" : "sense");
      put(Integer.toString(r(r(20) == 0 ? 18 : 8)));
    }
  }
}
