import java.lang.reflect.Method;
import java.nio.charset.StandardCharsets;

/** Every call with arguments on and beyond all bounds, in towns from none to full: held against NaiveTown, and none throws. */
public final class ExtremesTest {
  private static final int MOST_CALLS = 500;
  private static final int MIN = Integer.MIN_VALUE;
  private static final int MAX = Integer.MAX_VALUE;
  private static final int[] MANY = {MIN, MIN + 1, -2000000000, -4096, -2, -1, 0, 1, 2, 3, 4, 5, 6, 7, 8, 9, 10, 11, 12, 13, 19, 20, 21, 23, 24, 25,
    28, 29, 30, 31, 32, 33, 39, 40, 41, 59, 60, 61, 63, 64, 65, 100, 255, 256, 1399, 1400, 1401, 4094, 4095, 4096, 65536,
    1999999999, 2000000000, 2000000001, MAX - 1, MAX};
  private static final int[] SOME = {MIN, -1, 0, 1, 2, 3, 4, 8, 11, 12, 20, 21, 59, 60, 61, 2000000000, MAX};
  private static final int[] FEW = {MIN, -1, 0, 1, 3, 4, MAX};

  private static final String FULL = full();
  private static final String[] TEXTS = {"", Towns.BARE, Towns.BOOK + "note 0 to 0 0 denies;fact 0;dead 0;", FULL, FULL + "?"};

  private final int state;
  private Pair pair;
  private boolean differs = false;

  private ExtremesTest(int state) { this.state = state; }

  /** 12 pages in 5 books, 24 notes, two facts. */
  private static String full() {
    StringBuilder b = new StringBuilder("town opens 3 odds 50;book pages 8 by 0;");
    for (int n = 1; n < 5; n++) b.append("book pages 1 by ").append(n).append(";");
    for (int n = 0; n < 24; n++)
      b.append("note ").append(n * 5 % 12).append(" to ").append(n % 5).append(" ").append(n % 5 == 0 ? n % 8 : n % 2).append(n % 7 == 3 ? " denies;" : ";");
    return b + "fact 9;fact 4;dead 2;";
  }

  public static void main(String[] args) {
    boolean differs = false;
    for (int state = 0; state < 2 * TEXTS.length && !differs; state++) differs = new ExtremesTest(state).run();
    System.out.println(differs ? "ExtremesTest: answers differ" : "ExtremesTest: all answers agree");
    if (differs) System.exit(1);
  }

  /** Each text, once as it is told, once with acts, rows and an image. */
  private void begin() {
    pair = new Pair();
    pair.tell(TEXTS[state / 2].getBytes(StandardCharsets.ISO_8859_1));
    if (state % 2 == 1) actAndFill();
    differs |= pair.differs();
  }

  private void actAndFill() {
    for (int n = 0; n < 22; n++) pair.call("edition", 0, n);
    for (int n = 0; n < 14; n++) pair.call("misprint", n, 23 + n % 7);
    pair.call("tear", 0, 23);
    pair.call("tear", 2, 0);
    pair.call("tear", 0, 1);
    pair.call("image", 1);
    pair.call("row", 0, 0, 8);
    for (int n = 0; n < 8; n++) pair.call("write", 0, n, (long) (n % 5 == 1 ? 3 : n));
    pair.call("row", 1, 3, 60);
    pair.call("row", 3, 0, 0);
  }

  private boolean run() {
    for (Method m : Pair.face()) {
      begin();
      ask(m.getName(), new Object[m.getParameterCount()], 0, m.getParameterTypes());
    }
    return differs;
  }

  private void ask(String name, Object[] args, int at, Class<?>[] types) {
    if (differs) return;
    if (at == args.length) {
      if (pair.calls() >= MOST_CALLS) begin();
      pair.call(name, args.clone());
      differs |= pair.differs();
      return;
    }
    for (int v : args.length < 3 ? MANY : args.length == 3 ? SOME : FEW) {
      args[at] = types[at] == long.class ? (Object) (long) v : (Object) v;
      ask(name, args, at + 1, types);
    }
  }
}
