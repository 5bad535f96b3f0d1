import com.sun.management.ThreadMXBean;
import java.lang.management.ManagementFactory;

/** All calls of one run live in one room, so only what must be made is made behind a constructor. */
public final class RoomTest {
  private static final ThreadMXBean THREADS = (ThreadMXBean) ManagementFactory.getThreadMXBean();

  public static void main(String[] args) {
    round();
    constructors();
    questions();
    texts();
    laws();
    images();
    Check.close("RoomTest");
  }

  private static long made() {
    return THREADS.getCurrentThreadAllocatedBytes();
  }

  private static void atMost(String what, long bytes, long most) {
    Check.isSo(what + " made " + bytes + " bytes, at most " + most, bytes <= most);
  }

  private static HeadFits busy() {
    HeadFits x = new HeadFits();
    for (int i = 0; i < 15; i++) Check.word(x, "abc", i / 3, i, 5);
    for (int i = 0; i < 6; i++) x.say(i % 5);
    x.column(100, 4);
    Check.inForce(x, "costs white/3+line;bars if word>40;loses loss*2 if truth>3");
    for (int i = 0; i < 6; i++) x.matter(5, 5 * i + 5, i + 1);
    x.set(1);
    return x;
  }

  private static void ask(HeadFits x) {
    x.terms(1, x.count(15) % 9 + 1);
    for (int i = 0; i < 15; i++) {
      x.fit(i);
      x.truest(i);
    }
    x.over();
    x.narrow();
    x.largest();
    x.says(100, 1);
    x.seen(0, 30);
    x.changed(0);
    x.edition(1);
    x.readers(5, 100);
    x.cost();
    x.set(2);
    x.turn();
    x.clear();
    x.undo();
    x.forget();
  }

  // The first time classes are loaded, which makes objects that are not the program's.
  private static void round() {
    HeadFits x = busy();
    ask(x);
    x.image(0);
    x.back(0);
    made();
  }

  private static void constructors() {
    long before = made();
    HeadFits x = new HeadFits();
    atMost("a constructor", made() - before, 20000);
    Check.due("status", x.status(), 0);
  }

  private static void questions() {
    HeadFits x = busy();
    long before = made();
    for (int i = 0; i < 9; i++) ask(x);
    atMost("questions", made() - before, 200);
  }

  private static void texts() {
    HeadFits x = busy();
    int[] clear = {0x636c6561, 0x723b7365, 0x7420333b, 0x7365743b};
    long before = made();
    for (int i = 0; i < 100; i++) {
      x.feed(clear[0], clear[1], clear[2], 0x74757200, 0);
      x.end(12 + i % 4);
      x.settings();
    }
    atMost("settings", made() - before, 200);
  }

  private static void laws() {
    HeadFits x = busy();
    x.image(0);
    long before = made();
    for (int i = 0; i < 100; i++) {
      x.back(0);
      x.feed(0x62617273, 0, 0, 0, 0);
      x.end(4);
      Check.due("law", x.law(), 1);
    }
    atMost("100 laws", made() - before, 100 * 400);
  }

  private static void images() {
    HeadFits x = busy();
    x.image(0);
    x.image(1);
    long before = made();
    for (int i = 0; i < 200; i++) {
      x.image(i % 2);
      x.back(i % 2);
    }
    atMost("images", made() - before, 200);
  }
}
