import java.nio.charset.StandardCharsets;
import java.util.ArrayList;
import java.util.Arrays;
import java.util.List;
import java.util.Random;

/** Random runs of calls, the same each time, answered by FootNotes and by NaiveTown. */
public final class RandomRunsTest {
  private static final int RUNS = Integer.getInteger("runs", 600);
  private static final int CALLS = 150;
  private static int wrong = 0;

  /** What each number of a call is drawn from. */
  private static final String[] CALL_SHAPES = {
    "fault what", "page page what", "book book what", "leaf book leaf", "note note what",
    "leads note", "meant note", "astray", "edition book leaf", "tear book leaf", "misprint note leaf",
    "reach page", "upon page", "rings", "round page", "ring page", "way page", "step page few", "depth page",
    "deepest", "grounded", "needs page", "loss page", "key", "cut page", "torn page", "holds set", "ways", "most",
    "mostly", "sure few", "loose set", "loosely set", "leaves page page", "reads slot page",
    "order slot page few", "shares slot page", "first slot page", "sends", "orders", "earliest few",
    "worth page rounds", "rest", "saint rounds", "meets page page", "nearest page page", "third page page",
    "cited few", "famous few", "quotes few few", "drawn seed", "shaken seed", "years seed rounds page",
    "count count", "image few", "back few", "row slot width length", "write slot few value",
    "paste slot few slot few few",
  };

  private final Random random;
  private final Pair pair = new Pair();

  private RandomRunsTest(long seed) { random = new Random(seed); }

  public static void main(String[] args) {
    for (int run = 0; run < RUNS && wrong < 5; run++) {
      RandomRunsTest test = new RandomRunsTest(run);
      test.run();
      if (test.pair.differs()) wrong++;
    }
    System.out.println(wrong == 0 ? "RandomRunsTest: all answers agree" : "RandomRunsTest: " + wrong + " runs differ");
    if (wrong != 0) System.exit(1);
  }

  private void run() {
    if (random.nextInt(20) > 0) pair.tell(townText());
    int busy = random.nextInt(5) == 0 ? 200 : 40;
    for (int i = 0; i < CALLS && !pair.differs(); i++) {
      int dice = random.nextInt(300);
      if (dice == 0) pair.tell(townText());
      else if (dice == 1) pair.tell(spoiled(townText()));
      else if (dice == 2) ask(random.nextInt(3) == 0 ? "anew" : "end tape");
      else if (dice == 3 && random.nextInt(6) == 0) ask("town");
      else if (dice < 12) fillRow();
      else if (dice < busy) act();
      else ask(CALL_SHAPES[random.nextInt(CALL_SHAPES.length)]);
    }
  }

  private void act() {
    String[] acts = {"edition book leaf", "edition book few", "tear book leaf", "tear book few", "misprint note leaf"};
    ask(random.nextInt(8) == 0 ? "undo" : acts[random.nextInt(acts.length)]);
  }

  private void fillRow() {
    int slot = random.nextInt(4), width = random.nextInt(4), n = random.nextInt(6);
    if (random.nextInt(8) == 0) n = random.nextInt(10);
    pair.call("row", slot, width, n);
    for (int i = 0; i < n; i++) pair.call("write", slot, i, (long) random.nextInt(Math.max(1, pair.number(1))));
  }

  private byte[] spoiled(byte[] text) {
    byte[] b = text.clone();
    int times = 1 + random.nextInt(2);
    for (int i = 0; i < times; i++) {
      int at = random.nextInt(b.length);
      String signs = "0123456789;; \nabnotfdeX-\t";
      int dice = random.nextInt(4);
      if (dice == 0) b = Arrays.copyOf(b, at + 1);
      else if (dice == 1) System.arraycopy(b, Math.min(b.length, at + 1), b, at, b.length - Math.min(b.length, at + 1));
      else b[at] = (byte) (dice == 2 ? signs.charAt(random.nextInt(signs.length())) : random.nextInt(256));
    }
    return b;
  }

  private byte[] townText() {
    StringBuilder s = new StringBuilder();
    s.append("town opens ").append(1 + random.nextInt(random.nextBoolean() ? 3 : 20));
    s.append(" odds ").append(random.nextInt(4) == 0 ? 100 : random.nextInt(101)).append(";");
    int books = 1 + random.nextInt(5), pages = 0, told = 0;
    int most = random.nextBoolean() ? 12 : 5;
    List<Integer> sizes = new ArrayList<>();
    for (int b = 0; b < books && pages < most; b++) {
      int n = Math.min(1 + random.nextInt(5), most - pages);
      s.append("book pages ").append(n).append(" by ").append(random.nextInt(5)).append(";\n");
      pages += n;
      sizes.add(n);
      told++;
    }
    int notes = random.nextInt(25);
    int denials = random.nextInt(4);
    for (int i = 0; i < notes; i++) {
      int b = random.nextInt(told);
      int leaf = random.nextInt(6) == 0 ? random.nextInt(30) : random.nextInt(sizes.get(b));
      s.append("note ").append(random.nextInt(pages)).append(" to ").append(b).append(" ").append(leaf);
      s.append(random.nextInt(10) < denials ? " denies;" : ";");
    }
    int facts = random.nextInt(3) == 0 ? random.nextInt(5) : random.nextInt(2);
    List<Integer> known = new ArrayList<>();
    for (int i = 0; i < facts; i++) {
      int f = random.nextInt(pages);
      if (!known.contains(f)) { known.add(f); s.append("fact ").append(f).append(" ;"); }
    }
    for (int d = 0; d < 5; d++) if (random.nextInt(3) == 0) s.append("dead ").append(d).append(";");
    return s.toString().getBytes(StandardCharsets.ISO_8859_1);
  }

  private void ask(String shape) {
    String[] parts = shape.split(" ");
    Object[] args = new Object[parts.length - 1];
    for (int i = 1; i < parts.length; i++) args[i - 1] = drawn(parts[i]);
    pair.call(parts[0], args);
  }

  private Object drawn(String what) {
    if (random.nextInt(60) == 0 && !what.equals("value")) {
      int[] odd = {-1, Integer.MIN_VALUE, Integer.MAX_VALUE, 61, 2000000001, 12, 24, 4096};
      return odd[random.nextInt(odd.length)];
    }
    int pages = pair.number(1);
    switch (what) {
      case "page": return random.nextInt(pages + 1 - (pages > 1 && random.nextInt(8) > 0 ? 1 : 0));
      case "book": return random.nextInt(pair.number(0) + 1);
      case "leaf": return random.nextInt(random.nextInt(5) == 0 ? 31 : 9);
      case "note": return random.nextInt(pair.number(2) + 1);
      case "what": return random.nextInt(5);
      case "few": return random.nextInt(7) - 1;
      case "set": return random.nextInt((1 << pages) + 1);
      case "slot": return random.nextInt(4);
      case "rounds": return random.nextInt(random.nextInt(4) == 0 ? 43 : 6);
      case "seed": return random.nextInt(4) == 0 ? 1999999990 + random.nextInt(12) : random.nextInt(2000000000);
      case "count": return random.nextInt(12) - 1;
      case "width": return random.nextInt(4);
      case "length": return random.nextInt(12) - 1;
      case "tape": return random.nextInt(30);
      default: return random.nextInt(3) == 0 ? random.nextLong() : random.nextInt(12) + 256L * random.nextInt(3);
    }
  }
}
