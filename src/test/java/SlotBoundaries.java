/** The boundary cases of counts, images and slots: promises 60 to 65. */
final class SlotBoundaries {
  private static final int[] FAR = {-1, Integer.MIN_VALUE, Integer.MAX_VALUE};

  private final Sentences s;

  SlotBoundaries(Sentences s) { this.s = s; }

  void run() {
    rows();
    count();
    image();
    back();
    row();
    write();
    paste();
    pasteRefused();
  }

  /** Twelve pages, so that a row's number can be seen by order(). */
  private static FootNotes twelve() { return Towns.of(Towns.BARE + "book pages 9 by 0;book pages 3 by 0;"); }

  /** Each number of a row, seen by pasting it alone into slot 3. */
  private void rowIs(FootNotes x, int slot, int width, int... want) {
    for (int i = 0; i < want.length; i++) {
      x.row(3, width, 1);
      x.paste(slot, i, 3, 0, 1);
      s.due("number " + i + " of slot " + slot, x.order(3, 0, 0), want[i]);
    }
    s.due("no number beyond", x.write(slot, want.length, 0), -7);
  }

  private void rows() {
    s.says("block", "SLOTS 0 .. 3 have rows of numbers of 1, 2, 4 or 8 bytes (WIDTH 0 .. 3), at most 60, or nothing.");
    FootNotes x = twelve();
    for (int slot = 0; slot < 4; slot++) {
      s.due("nothing", x.write(slot, 0, 0), -6);
      s.due("row(" + slot + ", " + slot + ", 60)", x.row(slot, slot, 60), 0);
      s.due("the last of 60", x.write(slot, 59, 1), 0);
    }
    s.due("four slots", x.count(9), 4);
    s.due("row(4, 0, 1)", x.row(4, 0, 1), -2);
    s.due("row(0, 4, 1)", x.row(0, 4, 1), -2);
    s.due("row(0, 0, 61)", x.row(0, 0, 61), -2);
  }

  private void count() {
    s.says(60, "0 BOOKS, 1 PAGES, 2 NOTES, 3 FACTS, 4 opens, 5 odds, 6 acts, 7 LINES, 8 bytes of the TAPE, 9 SLOTS that have a row.");
    StringBuilder full = new StringBuilder("town opens 20 odds 100;book pages 8 by 0;" + "book pages 1 by 0;".repeat(4));
    full.append("note 0 to 0 0;".repeat(24));
    for (int p = 0; p < 12; p++) full.append("fact ").append(p).append(";");
    for (int d = 0; d < 5; d++) full.append("dead ").append(d).append(";");
    FootNotes x = Towns.of(full.toString());
    for (int n = 0; n < 40; n++) x.misprint(0, 0);
    for (int slot = 0; slot < 4; slot++) x.row(slot, 0, 0);
    Towns.feedAll(x, " ".repeat(1400));
    int[] most = {5, 12, 24, 12, 20, 100, 40, 47, 1400, 4};
    for (int what = 0; what < 10; what++) s.due("count(" + what + "), the most", x.count(what), most[what]);
    x.tear(0, 0);
    x.anew();
    x.tear(0, 0);
    s.due("count(3), a fact torn out", x.count(3), 12);
    s.due("count(6)", x.count(6), 1);
    FootNotes y = Towns.of("town opens 7 odds 0;");
    int[] least = {0, 0, 0, 0, 7, 0, 0, 1, 0, 0};
    for (int what = 0; what < 10; what++) s.due("count(" + what + ") of a bare town", y.count(what), least[what]);
    FootNotes none = new FootNotes();
    for (int what = 0; what < 10; what++) s.due("count(" + what + ") without a town", none.count(what), 0);
    s.says(60, "NONE for others.");
    for (int what : new int[] {10, -1, Integer.MIN_VALUE, Integer.MAX_VALUE}) {
      s.due("count(" + what + ")", x.count(what), -1);
      s.due("count(" + what + ") without a town", none.count(what), -1);
    }
  }

  private void image() {
    s.says(61, "IMAGE k (0 .. 2) keeps the TOWN, and acts: 0.");
    FootNotes x = Towns.ofPages(3, "note 0 to 0 1;fact 2;");
    x.edition(0, 1);
    s.due("image(0)", x.image(0), 0);
    x.tear(0, 2);
    s.due("image(1)", x.image(1), 0);
    x.misprint(0, 3);
    s.due("image(2)", x.image(2), 0);
    s.due("the town stays", x.leads(0), 2);
    s.due("acts stay", x.count(6), 3);
    Towns.tell(x, Towns.BARE);
    int[] acts = {1, 2, 3};
    int[] leads = {-1, -1, 2};
    int[] second = {1, -4, -4};
    for (int k = 2; k >= 0; k--) {
      s.due("back(" + k + ")", x.back(k), 0);
      s.due("acts of image " + k, x.count(6), acts[k]);
      s.due("leads(0) of image " + k, x.leads(0), leads[k]);
      s.due("leaf(0, 2) of image " + k, x.leaf(0, 2), second[k]);
    }
    actsKept();
    x.anew();
    s.due("image(0) in place of another", x.image(0), 0);
    x.tear(0, 0);
    x.back(0);
    s.due("acts of the new image", x.count(6), 0);
    s.says(61, "-2: no such k.");
    s.due("image(3)", x.image(3), -2);
    for (int k : FAR) s.due("image(" + k + ")", x.image(k), -2);
    s.due("image(3) without a town", new FootNotes().image(3), -2);
  }

  /** Acts made since are of other kinds, in other places: those of the image are taken back. */
  private void actsKept() {
    FootNotes x = Towns.of(Towns.BARE + "book pages 2 by 0;book pages 2 by 0;note 0 to 0 1;note 2 to 1 1;");
    x.edition(1, 1);
    x.tear(1, 2);
    x.misprint(1, 9);
    x.image(0);
    x.anew();
    x.misprint(0, 7);
    x.edition(0, 0);
    x.tear(0, 1);
    x.back(0);
    s.due("undo a misprint", x.undo(), 2);
    s.due("note(1, 2)", x.note(1, 2), 1);
    s.due("undo a tear", x.undo(), 1);
    s.due("leaf(1, 2)", x.leaf(1, 2), 3);
    s.due("undo an edition", x.undo(), 0);
    s.due("leaves", x.book(1, 1), 2);
    s.due("leaf(1, 1)", x.leaf(1, 1), 3);
    s.due("note(0, 2)", x.note(0, 2), 1);
    s.due("leaf(0, 0)", x.leaf(0, 0), 0);
  }

  private void back() {
    s.says(62, "It is as IMAGE k has it: 0.");
    FootNotes x = new FootNotes();
    x.image(2);
    Towns.tell(x, "town opens 9 odds 8;book pages 2 by 3;note 1 to 0 0 denies;fact 0;dead 3;");
    for (int n = 0; n < 39; n++) x.misprint(0, n % 30);
    x.tear(0, 0);
    x.image(1);
    Towns.tell(x, Towns.BOOK);
    Towns.feedAll(x, Towns.BARE);
    x.row(1, 0, 0);
    s.due("back(1)", x.back(1), 0);
    int[] counts = {1, 2, 1, 1, 9, 8, 40, 5, 20, 1};
    for (int what = 0; what < 10; what++) s.due("count(" + what + "), tape and slots as they are", x.count(what), counts[what]);
    s.due("leads(0)", x.leads(0), -1);
    s.due("meant(0)", x.meant(0), 0);
    s.due("book(0, 3)", x.book(0, 3), 1);
    s.due("note(0, 3)", x.note(0, 3), 1);
    s.due("no 41st act", x.edition(0, 0), -5);
    for (int n = 39; n >= 0; n--) s.due("undo to " + n, x.undo(), n);
    s.due("leads(0)", x.leads(0), 0);
    s.due("back(1) again", x.back(1), 0);
    s.due("acts, as kept", x.count(6), 40);
    s.due("back(2), without a town", x.back(2), 0);
    for (int what = 0; what < 8; what++) s.due("count(" + what + ")", x.count(what), 0);
    s.due("undo()", x.undo(), -2);
    s.due("the tape stays", x.town(), 1);
    s.says(62, "-2: no such k;");
    s.due("back(3)", x.back(3), -2);
    for (int k : FAR) s.due("back(" + k + ")", x.back(k), -2);
    s.says(62, "-6: it has nothing.");
    s.due("back(0)", x.back(0), -6);
    FootNotes y = new FootNotes();
    for (int k = 0; k < 3; k++) s.due("back(" + k + ") of a new object", y.back(k), -6);
    s.due("the town stays", x.count(7), 1);
  }

  private void row() {
    FootNotes x = twelve();
    s.says(63, "A SLOT (0 .. 3) has a row of n numbers of a WIDTH, all 0 (in place of another one): 0.");
    for (int slot = 0; slot < 3; slot++) {
      s.due("row of none", x.row(slot, slot, 0), 0);
      s.due("row of 60", x.row(slot, slot, 60), 0);
      for (int i = 0; i < 60; i++) x.write(slot, i, 7);
      s.due("row of 2 in its place", x.row(slot, slot, 2), 0);
      rowIs(x, slot, slot, 0, 0);
      x.row(slot, slot, 60);
      s.due("reads, sixty of 0", x.reads(slot, 0), -2);
      x.tear(0, 7);
      s.due("none of 60 is as it was", x.reads(slot, 0), -2);
      x.undo();
    }
    s.due("row(3, 3, 1)", x.row(3, 3, 1), 0);
    s.due("slots", x.count(9), 4);
    s.due("another width in its place", x.row(3, 0, 1), 0);
    s.due("paste of one width", x.paste(3, 0, 0, 0, 1), 0);
    s.says(63, "-2: there is no such SLOT or WIDTH (0 .. 3), or n is above 60;");
    FootNotes y = twelve();
    s.due("row(4, 0, 1)", y.row(4, 0, 1), -2);
    s.due("row(0, 4, 1)", y.row(0, 4, 1), -2);
    s.due("row(0, 0, 61)", y.row(0, 0, 61), -2);
    s.due("row(0, 0, MAX)", y.row(0, 0, Integer.MAX_VALUE), -2);
    for (int n : FAR) {
      s.due("row(" + n + ", 0, 1)", y.row(n, 0, 1), -2);
      s.due("row(0, " + n + ", 1)", y.row(0, n, 1), -2);
    }
    s.due("row(4, 0, -1)", y.row(4, 0, -1), -2);
    s.due("row(0, 4, -1)", y.row(0, 4, -1), -2);
    s.due("slots", y.count(9), 0);
    s.says(63, "-3, and the SLOT stays: n is below 0.");
    s.due("row(0, 0, -1)", y.row(0, 0, -1), -3);
    s.due("nothing stays", y.count(9), 0);
    Towns.row(y, 0, 0, 5, 6);
    s.due("row(0, 0, -1)", y.row(0, 0, -1), -3);
    s.due("row(0, 3, MIN)", y.row(0, 3, Integer.MIN_VALUE), -3);
    rowIs(y, 0, 0, 5, 6);
  }

  private void write() {
    FootNotes x = twelve();
    s.says(64, "Number i of the SLOT's row is v, cut to its WIDTH: 0.");
    for (int width = 0; width < 4; width++) {
      s.due("row", x.row(width, width, 60), 0);
      s.due("write, the first", x.write(width, 0, 11), 0);
      s.due("write, the last", x.write(width, 59, 11), 0);
      if (width < 3) cutTo(x, width);
      kept(x, width);
    }
    FootNotes y = twelve();
    Towns.row(y, 0, 0, 1, 2, 3);
    y.write(0, 1, 9);
    rowIs(y, 0, 0, 1, 9, 3);
    s.says(64, "-2: there is no such SLOT;");
    s.due("write(4, 0, 0)", y.write(4, 0, 0), -2);
    for (int n : FAR) s.due("write(" + n + ", 0, 0)", y.write(n, 0, 0), -2);
    s.says(64, "-6: it has nothing;");
    s.due("write(1, 0, 0)", y.write(1, 0, 0), -6);
    s.due("write(1, -1, 0)", y.write(1, -1, 0), -6);
    s.says(64, "-7: there is no such number.");
    s.due("write(0, 3, 0)", y.write(0, 3, 0), -7);
    for (int n : FAR) s.due("write(0, " + n + ", 0)", y.write(0, n, 0), -7);
    y.row(1, 3, 0);
    s.due("write(1, 0, 0) of none", y.write(1, 0, 0), -7);
    y.row(1, 3, 60);
    s.due("write(1, 60, 0) of sixty", y.write(1, 60, 0), -7);
    rowIs(y, 0, 0, 1, 9, 3);
  }

  /** What is above the width is cut off, below 0 as well. */
  private void cutTo(FootNotes x, int width) {
    long above = 1L << (8 << width);
    for (long v : new long[] {above + 5, -above + 5, 7 * above + 5, Long.MIN_VALUE + 5, (1L << 62) + 5}) {
      x.row(width, width, 1);
      s.due("write", x.write(width, 0, v), 0);
      s.due(v + " cut to width " + width, x.order(width, 0, 0), 5);
    }
    x.write(width, 0, above);
    s.due("the least that is cut to 0", x.order(width, 3, 0), 0);
  }

  /** What is within the width stays, so that it is no page. */
  private void kept(FootNotes x, int width) {
    int bits = 8 << width;
    for (int b = 4; b < bits; b++) {
      x.row(width, width, 1);
      x.write(width, 0, (1L << b) + 5);
      s.due("bit " + b + " of width " + width, x.order(width, 0, 0), -2);
    }
    x.write(width, 0, -1);
    s.due("-1 of width " + width, x.order(width, 0, 0), -2);
  }

  private void paste() {
    FootNotes x = twelve();
    s.says(65, "So many numbers of a SLOT's row, from one on, are put to another one's (or its own), from one on, as they were: 0.");
    Towns.row(x, 0, 2, 1, 2, 3, 4, 5);
    Towns.row(x, 1, 2, 11, 10, 9);
    s.due("none", x.paste(0, 0, 1, 0, 0), 0);
    s.due("none, behind the last", x.paste(0, 5, 1, 3, 0), 0);
    rowIs(x, 1, 2, 11, 10, 9);
    s.due("the last to the first", x.paste(0, 4, 1, 0, 1), 0);
    rowIs(x, 1, 2, 5, 10, 9);
    s.due("three", x.paste(0, 2, 1, 0, 3), 0);
    rowIs(x, 1, 2, 3, 4, 5);
    s.due("two to the last", x.paste(0, 0, 1, 1, 2), 0);
    rowIs(x, 1, 2, 3, 1, 2);
    rowIs(x, 0, 2, 1, 2, 3, 4, 5);
    s.due("its own, on by one", x.paste(0, 0, 0, 1, 4), 0);
    rowIs(x, 0, 2, 1, 1, 2, 3, 4);
    s.due("its own, back by one", x.paste(0, 1, 0, 0, 4), 0);
    rowIs(x, 0, 2, 1, 2, 3, 4, 4);
    s.due("its own, all of it", x.paste(0, 0, 0, 0, 5), 0);
    rowIs(x, 0, 2, 1, 2, 3, 4, 4);
    x.row(0, 3, 60);
    x.row(1, 3, 60);
    x.write(0, 59, 8);
    s.due("sixty", x.paste(0, 0, 1, 0, 60), 0);
    s.due("the last of sixty", x.paste(1, 59, 1, 0, 1), 0);
    x.row(2, 3, 1);
    x.paste(1, 0, 2, 0, 1);
    s.due("the last of sixty, as it was", x.order(2, 0, 0), 8);
  }

  private void pasteRefused() {
    FootNotes x = twelve();
    Towns.row(x, 0, 0, 1, 2, 3);
    Towns.row(x, 1, 0, 4, 5);
    Towns.row(x, 2, 1, 6, 7);
    s.says(65, "-2: there is no such SLOT;");
    for (int n : new int[] {4, -1, Integer.MIN_VALUE, Integer.MAX_VALUE}) {
      s.due("paste(" + n + ", 0, 0, 0, 0)", x.paste(n, 0, 0, 0, 0), -2);
      s.due("paste(0, 0, " + n + ", 0, 0)", x.paste(0, 0, n, 0, 0), -2);
      s.due("paste(3, 0, " + n + ", 0, 0), one with nothing", x.paste(3, 0, n, 0, 0), -2);
      s.due("paste(" + n + ", 0, 3, 0, 0), one with nothing", x.paste(n, 0, 3, 0, 0), -2);
    }
    s.says(65, "-6: one has nothing;");
    s.due("paste(3, 0, 0, 0, 0)", x.paste(3, 0, 0, 0, 0), -6);
    s.due("paste(0, 0, 3, 0, 0)", x.paste(0, 0, 3, 0, 0), -6);
    s.due("paste(3, 0, 3, 0, 0)", x.paste(3, 0, 3, 0, 0), -6);
    s.due("paste(0, -1, 3, 9, 9)", x.paste(0, -1, 3, 9, 9), -6);
    s.says(65, "-8: they are not of one WIDTH;");
    s.due("paste(0, 0, 2, 0, 1)", x.paste(0, 0, 2, 0, 1), -8);
    s.due("paste(2, 0, 0, 0, 0), none", x.paste(2, 0, 0, 0, 0), -8);
    s.due("paste(2, 9, 0, -1, 9)", x.paste(2, 9, 0, -1, 9), -8);
    s.says(65, "-7, and nothing happens: some are beyond their rows, or a place or n is below 0.");
    int max = Integer.MAX_VALUE;
    int min = Integer.MIN_VALUE;
    int[][] beyond = {{0, 0, 1, 0, 3}, {1, 0, 0, 0, 3}, {0, 2, 1, 0, 2}, {0, 0, 1, 1, 2}, {0, 3, 1, 0, 1}, {0, 0, 1, 2, 1}, {0, 4, 1, 0, 0},
      {0, 0, 1, 3, 0}, {0, -1, 1, 0, 1}, {0, 0, 1, -1, 1}, {0, 0, 1, 0, -1}, {0, -1, 1, -1, 0}, {0, 0, 0, 1, 3}, {0, 1, 0, 0, 3},
      {0, max, 1, 0, 1}, {0, 0, 1, max, 1}, {0, 0, 1, 0, max}, {0, max, 1, max, max}, {0, 1, 1, 1, max}, {0, min, 1, 0, 1},
      {0, 0, 1, min, 1}, {0, 0, 1, 0, min}, {0, min, 1, min, min}, {0, max, 1, max, 2}, {0, 1, 1, 1, min}};
    for (int[] b : beyond) s.due("paste" + java.util.Arrays.toString(b), x.paste(b[0], b[1], b[2], b[3], b[4]), -7);
    s.due("slots", x.count(9), 3);
    rowIs(x, 0, 0, 1, 2, 3);
    rowIs(x, 1, 0, 4, 5);
  }
}
