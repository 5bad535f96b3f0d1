import java.util.LinkedHashMap;
import java.util.Map;

/**
 * All that an object tells, so that two can be compared. Refusals and status are left out: they
 * tell what was called, not what stands. Each of the two rows is short enough that an object that
 * has been filled stays within its 512 calls.
 */
final class Snapshot {
  private final HeadFits x;
  private final Map<String, Integer> told = new LinkedHashMap<>();

  private Snapshot(HeadFits x) {
    this.x = x;
  }

  /** By questions, which change nothing. */
  static Map<String, Integer> asked(HeadFits x) {
    Snapshot s = new Snapshot(x);
    s.counts("");
    s.put("fault", x.fault());
    s.put("stopped", x.stopped());
    s.words(16);
    s.head(12);
    for (int line = 0; line < 4; line++) {
      for (int what = 0; what < 5; what++) s.put("line " + line + " " + what, x.line(line, what));
    }
    s.rows();
    for (int i = -1; i < 4; i++) s.put("changed " + i, x.changed(i));
    for (int what = 0; what < 11; what++) s.put("edition " + what, x.edition(what));
    for (int i = 0; i < 12; i++) s.put("drawn " + i, x.drawn(i));
    return s.told;
  }

  /** By calls that change what they tell of: nothing more can be learnt from the object then. */
  static Map<String, Integer> takenApart(HeadFits x) {
    Snapshot s = new Snapshot(x);
    for (int i = 0; i < 17; i++) {
      s.put("undo " + i, x.undo());
      s.put("undo " + i + " leaves", x.count(2));
      s.put("undo " + i + " leaves the line", x.head(x.count(2) - 1, 1));
    }
    s.put("tape", x.settings());
    s.put("tape's fault", x.fault());
    s.values("");
    s.put("hush", x.hush());
    s.put("forget", x.forget());
    s.put("cancel", x.cancel());
    for (int k = 0; k < 2; k++) s.image(k);
    return s.told;
  }

  private void put(String name, int answer) {
    told.put(name, answer);
  }

  private void counts(String of) {
    for (int what = 0; what < 8; what++) put(of + "count " + what, x.count(what));
    for (int what = 13; what < 19; what++) put(of + "count " + what, x.count(what));
  }

  private void words(int many) {
    for (int word = 0; word < many && word < x.count(0); word++) {
      for (int what = 0; what < 8; what++) put("at " + word + " " + what, x.at(word, what));
    }
  }

  private void head(int many) {
    for (int i = 0; i < many; i++) {
      put("head " + i, x.head(i, 0));
      put("head's line " + i, x.head(i, 1));
    }
  }

  private void rows() {
    put("cost", x.cost());
    put("over", x.over());
    put("narrow", x.narrow());
    put("largest", x.largest());
    for (int what = 0; what < 15; what++) {
      put("fit " + what, x.fit(what));
      put("truest " + what, x.truest(what));
    }
    for (int what = 0; what < 3; what++) {
      put("says 40 " + what, x.says(40, what));
      put("says 400 " + what, x.says(400, what));
    }
  }

  private void values(String of) {
    for (int letter = 0; letter < 27; letter++) put(of + "breadth " + letter, x.breadth(letter, 9));
    for (int sense = 0; sense < 8; sense++) put(of + "worth " + sense, x.worth(sense, 2));
    for (int line = 0; line < 4; line++) put(of + "beside " + line, x.beside(line, -1));
  }

  private void image(int k) {
    String of = "image " + k + " ";
    put(of, x.back(k));
    counts(of);
    put(of + "cost", x.cost());
    put(of + "fit", x.fit(0));
    put(of + "edition", x.edition(0));
    put(of + "changed", x.changed(-1));
    for (int word = 0; word < 3; word++) {
      for (int what = 0; what < 8; what++) put(of + word + " " + what, x.at(word, what));
    }
    values(of);
  }
}
