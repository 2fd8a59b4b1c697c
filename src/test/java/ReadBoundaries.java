/** The boundary cases of turns, rows read and orders of books: term IV, promises 40 to 47. */
final class ReadBoundaries {
  /** Pages 0 to 8 on one book's leaves, 9 to 11 on another's. */
  private static final String WIDE = "book pages 9 by 0;book pages 3 by 1;";
  private static final int[] FAR = {-1, Integer.MIN_VALUE, Integer.MAX_VALUE};

  private final Sentences s;

  ReadBoundaries(Sentences s) { this.s = s; }

  void run() {
    turns();
    leaves();
    reads();
    readsRefused();
    tooLong();
    order();
    shares();
    first();
    sends();
    orders();
    earliest();
  }

  private static FootNotes opens(int cost, String lines) { return Towns.of("town opens " + cost + " odds 0;" + lines); }

  private void turns() {
    s.says("IV", "TURNS: from a PAGE that is not torn out to where a NOTE of it leads 1;");
    FootNotes x = opens(20, WIDE + "note 0 to 0 7;note 7 to 1 2 denies;note 1 to 1 5;");
    s.due("leaves(0, 7) by a note", x.leaves(0, 7), 1);
    s.due("leaves(0, 8) by a note and a leaf", x.leaves(0, 8), 2);
    s.due("leaves(11, 0) by a note to the first page", opens(20, WIDE + "note 11 to 0 0;").leaves(11, 0), 1);
    s.due("leaves(0, 11) by two notes, one denies", x.leaves(0, 11), 2);
    s.due("leaves(7, 0), no note leads back", x.leaves(7, 0), 7);
    x.tear(0, 7);
    s.due("leaves(0, 8), no note leads to a torn leaf", x.leaves(0, 8), 8);
    s.due("leaves(0, 11), nor on from there", x.leaves(0, 11), 22);
    x.misprint(0, 8);
    s.due("leaves(0, 8)", x.leaves(0, 8), 1);
    s.due("leaves(6, 11), past a torn leaf, whose note leads to none", x.leaves(6, 11), 22);
    s.says("IV", "from a LEAF to one beside it in its BOOK 1 (blank and torn ones, too);");
    FootNotes y = opens(20, WIDE);
    s.due("leaves(0, 8)", y.leaves(0, 8), 8);
    s.due("leaves(8, 0)", y.leaves(8, 0), 8);
    s.due("leaves(8, 9), not beside it: another book", y.leaves(8, 9), 20);
    s.due("leaves(9, 8), not beside it", y.leaves(9, 8), 28);
    y.edition(0, 1);
    s.due("leaves(0, 1), a blank one between", y.leaves(0, 1), 2);
    y.tear(0, 1);
    s.due("leaves(0, 1), a torn one between", y.leaves(0, 1), 2);
    y.tear(0, 2);
    s.due("leaves(0, 2), two torn ones between", y.leaves(0, 2), 3);
    s.due("leaves(2, 0), two torn ones between", y.leaves(2, 0), 3);
    FootNotes full = opens(20, "book pages 1 by 0;book pages 1 by 1;");
    for (int n = 0; n < 29; n++) full.edition(0, 0);
    s.due("leaves(0, 1), the 30th leaf is not beside the next book's first", full.leaves(0, 1), 20);
    s.due("leaves(1, 0), nor the other way", full.leaves(1, 0), 49);
    s.says("IV", "from any LEAF to LEAF 0 of any BOOK opens.");
    FootNotes z = opens(5, WIDE + "note 9 to 0 8;");
    s.due("leaves(4, 0), by leaves", z.leaves(4, 0), 4);
    s.due("leaves(5, 0), by leaves or opened", z.leaves(5, 0), 5);
    s.due("leaves(8, 0), its own book", z.leaves(8, 0), 5);
    s.due("leaves(8, 2), its own book", z.leaves(8, 2), 6);
    s.due("leaves(3, 11)", z.leaves(3, 11), 7);
    s.due("leaves(1, 8), by a note of the other's first page", z.leaves(1, 8), 6);
    z.edition(1, 0);
    s.due("leaves(0, 9), behind a blank one", z.leaves(0, 9), 6);
    z.tear(1, 0);
    s.due("leaves(0, 9), behind a torn one", z.leaves(0, 9), 6);
  }

  private void leaves() {
    s.says(40, "TURNS (IV) from a PAGE to another one: the fewest.");
    FootNotes x = opens(1, WIDE);
    s.due("leaves(8, 0), opens 1", x.leaves(8, 0), 1);
    s.due("leaves(3, 3), itself", x.leaves(3, 3), 0);
    FootNotes y = opens(20, "book pages 1 by 0;book pages 1 by 0;");
    for (int n = 0; n < 29; n++) y.edition(1, 0);
    s.due("leaves(0, 1), the 30th leaf, opens 20", y.leaves(0, 1), 49);
    s.due("leaves(1, 0)", y.leaves(1, 0), 20);
    s.due("leaves(1, 1)", y.leaves(1, 1), 0);
    s.says(40, "NONE: one of both is torn out;");
    x.tear(0, 3);
    s.due("leaves(3, 0)", x.leaves(3, 0), -1);
    s.due("leaves(0, 3)", x.leaves(0, 3), -1);
    s.due("leaves(3, 3)", x.leaves(3, 3), -1);
    s.due("leaves(2, 4), neither", x.leaves(2, 4), 2);
    s.says(40, "-2: there are none such.");
    s.due("leaves(12, 0)", x.leaves(12, 0), -2);
    s.due("leaves(0, 12)", x.leaves(0, 12), -2);
    s.due("leaves(3, 12), one torn out", x.leaves(3, 12), -2);
    for (int p : FAR) {
      s.due("leaves(" + p + ", 0)", x.leaves(p, 0), -2);
      s.due("leaves(0, " + p + ")", x.leaves(0, p), -2);
      s.due("leaves(" + p + ", " + p + ")", x.leaves(p, p), -2);
    }
    s.due("leaves(0, 0) without books", Towns.of(Towns.BARE).leaves(0, 0), -2);
    s.due("leaves(0, 0) without a town", new FootNotes().leaves(0, 0), -2);
  }

  private void reads() {
    s.says(41, "READ: the fewest TURNS from a PAGE through all of a SLOT's row of PAGES (eight at most), in any order.");
    FootNotes x = opens(20, WIDE);
    Towns.row(x, 0, 0, 3, 8, 1, 6, 2, 7, 5, 4);
    s.due("reads, eight", x.reads(0, 0), 8);
    s.due("reads, eight, from within", x.reads(0, 4), 10);
    s.due("reads, eight, from another book", x.reads(0, 11), 28);
    x.row(1, 1, 0);
    s.due("reads, none", x.reads(1, 5), 0);
    Towns.row(x, 1, 1, 5);
    s.due("reads, itself", x.reads(1, 5), 0);
    s.due("reads, one", x.reads(1, 4), 1);
    Towns.row(x, 2, 2, 5, 5, 5, 5, 5, 5, 5, 5);
    s.due("reads, one eight times", x.reads(2, 0), 5);
    Towns.row(x, 3, 3, 0, 8);
    s.due("reads, both ends, from 2", x.reads(3, 2), 10);
    s.due("reads, both ends, from 6", x.reads(3, 6), 10);
    s.says(41, "-6: it has nothing.");
    FootNotes y = opens(20, WIDE);
    for (int slot = 0; slot < 4; slot++) s.due("reads(" + slot + ", 0)", y.reads(slot, 0), -6);
    y.row(0, 0, -1);
    s.due("reads(0, 0), a row refused", y.reads(0, 0), -6);
    y.row(0, 0, 0);
    s.due("reads(0, 0), a row of none is a row", y.reads(0, 0), 0);
  }

  private void trips(FootNotes x, String state, int slot, int page, int want) {
    s.due("reads(" + slot + ", " + page + "), " + state, x.reads(slot, page), want);
    s.due("order(" + slot + ", " + page + ", 0), " + state, x.order(slot, page, 0), want);
    s.due("shares(" + slot + ", " + page + "), " + state, x.shares(slot, page), want);
    s.due("first(" + slot + ", " + page + "), " + state, x.first(slot, page), want);
  }

  private void readsRefused() {
    FootNotes x = opens(1, "book pages 9 by 0;");
    Towns.row(x, 0, 3, 1, 2);
    s.says(41, "NONE: one is torn out,");
    x.tear(0, 2);
    trips(x, "the last of the row", 0, 0, -1);
    Towns.row(x, 0, 3, 2, 1);
    trips(x, "the first of the row", 0, 0, -1);
    x.undo();
    s.due("reads, none any more", x.reads(0, 0), 2);
    s.says(41, "the first one is;");
    x.tear(0, 0);
    trips(x, "the page", 0, 0, -1);
    x.row(1, 0, 0);
    trips(x, "the page, of a row of none", 1, 0, -1);
    s.due("reads from another one", x.reads(0, 1), 1);
    s.says(41, "-2: there is no such SLOT, PAGE,");
    for (int slot : new int[] {4, -1, Integer.MIN_VALUE, Integer.MAX_VALUE}) trips(x, "no slot", slot, 1, -2);
    for (int page : new int[] {9, -1, 12, Integer.MIN_VALUE, Integer.MAX_VALUE}) {
      trips(x, "no page", 0, page, -2);
      trips(x, "no page, nothing in the slot", 3, page, -2);
    }
    trips(new FootNotes(), "no town", 0, 0, -2);
    trips(Towns.of(Towns.BARE), "no books", 0, 0, -2);
    s.says(41, "a number is none,");
    for (long n : new long[] {9, 12, -1, 1L << 32, 1L << 63, Long.MAX_VALUE, (1L << 32) + 1}) {
      x.write(0, 1, n);
      trips(x, n + " in the row", 0, 1, -2);
      trips(x, n + " in the row, the page torn out", 0, 0, -2);
    }
    Towns.row(x, 2, 0, 0, 9);
    trips(x, "a number is none, another is torn out", 2, 1, -2);
    Towns.row(x, 2, 0, 9, 0);
    trips(x, "a number is none, another is torn out behind", 2, 1, -2);
  }

  private void tooLong() {
    s.says(41, "more than eight (asked last);");
    FootNotes x = opens(1, "book pages 9 by 0;");
    Towns.row(x, 0, 0, 0, 1, 2, 3, 4, 5, 6, 7, 8);
    trips(x, "nine", 0, 0, -2);
    x.row(1, 0, 60);
    trips(x, "sixty", 1, 0, -2);
    s.due("order(0, 0, 99), nine", x.order(0, 0, 99), -2);
    x.tear(0, 8);
    trips(x, "nine, one torn out", 0, 0, -1);
    trips(x, "sixty, none torn out", 1, 0, -2);
    trips(x, "sixty, the first one torn out", 1, 8, -1);
    x.write(0, 0, 9);
    trips(x, "nine, one torn out, a number is none", 0, 0, -2);
  }

  private void order() {
    FootNotes x = Towns.of(Towns.BARE + "book pages 1 by 0;".repeat(5));
    s.says(42, "The i-th (from 0) of these PAGES, its number, by the first such order (the least row of places in the row).");
    Towns.row(x, 0, 0, 4, 2, 3, 1);
    int[] places = {4, 2, 3, 1};
    for (int i = 0; i < 4; i++) s.due("order(0, 0, " + i + "), all orders alike", x.order(0, 0, i), places[i]);
    int[] itself = {2, 4, 3, 1};
    for (int i = 0; i < 4; i++) s.due("order(0, 2, " + i + "), itself first", x.order(0, 2, i), itself[i]);
    FootNotes y = opens(20, WIDE);
    Towns.row(y, 0, 0, 8, 1, 7, 2, 6, 3, 5, 4);
    for (int i = 0; i < 8; i++) s.due("order(0, 0, " + i + "), eight", y.order(0, 0, i), i + 1);
    Towns.row(y, 1, 0, 8, 0);
    s.due("order(1, 4, 0), both ends as far", y.order(1, 4, 0), 8);
    Towns.row(y, 1, 0, 0, 8);
    s.due("order(1, 4, 0), both ends as far", y.order(1, 4, 0), 0);
    Towns.row(y, 2, 0, 5, 3, 5);
    int[] twice = {3, 5, 5};
    for (int i = 0; i < 3; i++) s.due("order(2, 3, " + i + "), one twice", y.order(2, 3, i), twice[i]);
    s.says(42, "NONE: there is none such;");
    for (int i : new int[] {8, -1, 60, Integer.MIN_VALUE, Integer.MAX_VALUE}) s.due("order(0, 0, " + i + ")", y.order(0, 0, i), -1);
    y.row(3, 0, 0);
    s.due("order(3, 0, 0) of none", y.order(3, 0, 0), -1);
    y.tear(0, 4);
    s.due("order(0, 0, 0), one torn out", y.order(0, 0, 0), -1);
    s.due("order(0, 4, 0), the first one torn out", y.order(0, 4, 0), -1);
    s.says(42, "-2, -6 likewise.");
    refused(x::order);
  }

  private interface Trip { int ask(int slot, int page, int i); }

  /** Asked of five pages, slot 3 with nothing. */
  private void refused(Trip trip) {
    s.due("no slot", trip.ask(4, 0, 0), -2);
    s.due("no slot below 0", trip.ask(-1, 0, 0), -2);
    s.due("no page", trip.ask(0, 5, 0), -2);
    s.due("no page below 0", trip.ask(0, -1, 0), -2);
    s.due("no page, no row", trip.ask(3, 5, 0), -2);
    s.due("no row", trip.ask(3, 0, 0), -6);
    s.due("no row, no such i", trip.ask(3, 0, -1), -6);
  }

  private void shares() {
    s.says(43, "SHARED by two who begin on a PAGE: the least of the TURNS of who has more, each PAGE of the row read by one of both.");
    FootNotes x = opens(20, WIDE);
    Towns.row(x, 0, 0, 0, 1, 2, 3, 5, 6, 7, 8);
    s.due("shares, eight, four each way", x.shares(0, 4), 4);
    s.due("shares, from an end, all by one", x.shares(0, 0), 8);
    Towns.row(x, 1, 0, 5);
    s.due("shares, one", x.shares(1, 0), 5);
    Towns.row(x, 2, 0, 5, 5);
    s.due("shares, one twice", x.shares(2, 0), 5);
    x.row(2, 0, 0);
    s.due("shares, none", x.shares(2, 0), 0);
    FootNotes y = Towns.of(Towns.BARE + "book pages 1 by 0;".repeat(5));
    Towns.row(y, 0, 0, 4, 3, 2, 1);
    s.due("shares, four books", y.shares(0, 0), 2);
    Towns.row(y, 0, 0, 4, 3, 2);
    s.due("shares, three books", y.shares(0, 0), 2);
    s.says(43, "NONE, -2, -6 likewise.");
    refused((slot, page, i) -> y.shares(slot, page));
    y.tear(4, 0);
    s.due("shares, one torn out", y.shares(0, 0), -1);
    s.due("shares, the first one torn out", y.shares(0, 4), -1);
    y.row(0, 0, 9);
    s.due("shares, nine", y.shares(0, 0), -2);
  }

  private void first() {
    s.says(44, "Which the first one reads (bits: places in the row), the least set by which it is.");
    FootNotes x = opens(20, WIDE);
    Towns.row(x, 0, 0, 0, 1, 2, 3, 5, 6, 7, 8);
    s.due("first, eight, four each way", x.first(0, 4), 15);
    s.due("first, from an end, none", x.first(0, 0), 0);
    Towns.row(x, 1, 0, 5);
    s.due("first, one", x.first(1, 0), 0);
    x.row(2, 0, 0);
    s.due("first, none", x.first(2, 0), 0);
    Towns.row(x, 1, 0, 8, 7, 6, 5, 3, 2, 1, 0);
    s.due("first, places and not pages", x.first(1, 4), 15);
    Towns.row(x, 1, 0, 8, 0, 7, 1, 6, 2, 5, 3);
    s.due("first, places and not pages", x.first(1, 4), 85);
    FootNotes y = Towns.of(Towns.BARE + "book pages 1 by 0;".repeat(5));
    Towns.row(y, 0, 0, 4, 3, 2, 1);
    s.due("first, of six sets", y.first(0, 0), 3);
    Towns.row(y, 0, 0, 4, 3, 2);
    s.due("first, one of three", y.first(0, 0), 1);
    s.says(44, "NONE, -2, -6 likewise.");
    refused((slot, page, i) -> y.first(slot, page));
    y.tear(4, 0);
    s.due("first, one torn out", y.first(0, 0), -1);
    s.due("first, the first one torn out", y.first(0, 4), -1);
    y.row(0, 0, 9);
    s.due("first, nine", y.first(0, 0), -2);
  }

  private static final String FIVE = Towns.BARE + "book pages 2 by 0;" + "book pages 1 by 0;".repeat(4);

  private void sends() {
    s.says(45, "FIRST: the fewest NOTES that lead to a BOOK that is later in an order of all BOOKS");
    s.due("sends() of one note", Towns.of(FIVE + "note 0 to 1 0;").sends(), 0);
    s.due("sends() both ways", Towns.of(FIVE + "note 0 to 1 0;note 0 to 1 0;note 2 to 0 0;").sends(), 1);
    s.due("sends() both ways, the fewer", Towns.of(FIVE + "note 2 to 0 0;note 2 to 0 0;note 0 to 1 0 denies;").sends(), 1);
    s.due("sends(), 24 notes", Towns.of(FIVE + "note 2 to 0 0;note 0 to 1 0;".repeat(12)).sends(), 12);
    s.due("sends(), a ring of all five", Towns.of(FIVE + "note 0 to 1 0;note 2 to 2 0;note 3 to 3 0;note 4 to 4 0;note 5 to 0 1;").sends(), 1);
    s.says(45, "(NOTES to their own BOOK, to no PAGE aside).");
    s.due("sends(), its own book", Towns.of(FIVE + "note 0 to 0 1;note 1 to 0 0;note 0 to 0 0;").sends(), 0);
    FootNotes x = Towns.of(FIVE + "note 0 to 1 0;note 2 to 0 2;note 2 to 0 1;");
    s.due("sends()", x.sends(), 1);
    x.tear(0, 1);
    s.due("sends(), to no page", x.sends(), 0);
    s.due("sends() without notes", Towns.of(FIVE).sends(), 0);
    s.due("sends() without books", Towns.of(Towns.BARE).sends(), 0);
    s.says(45, "-2: there is no TOWN.");
    s.due("sends()", new FootNotes().sends(), -2);
  }

  private void orders() {
    s.says(46, "How many orders there are with so few.");
    s.due("orders() of five without notes", Towns.of(FIVE).orders(), 120);
    s.due("orders() of five by one note", Towns.of(FIVE + "note 0 to 1 0;").orders(), 60);
    s.due("orders() of five in a chain", Towns.of(FIVE + "note 0 to 1 0;note 2 to 2 0;note 3 to 3 0;note 4 to 4 0;").orders(), 1);
    s.due("orders() of five in a ring", Towns.of(FIVE + "note 0 to 1 0;note 2 to 2 0;note 3 to 3 0;note 4 to 4 0;note 5 to 0 1;").orders(), 5);
    s.due("orders() of one book", Towns.of(Towns.BOOK).orders(), 1);
    s.due("orders() of two books alike", Towns.of(Towns.BOOK + "book pages 1 by 0;note 0 to 1 0;note 1 to 0 0;").orders(), 2);
    s.due("orders() without books", Towns.of(Towns.BARE).orders(), 1);
    s.says(46, "-2 likewise.");
    s.due("orders()", new FootNotes().orders(), -2);
  }

  private void earliest() {
    s.says(47, "BOOK i (from 0) of the first such order.");
    FootNotes x = Towns.of(FIVE);
    for (int i = 0; i < 5; i++) s.due("earliest(" + i + "), all alike", x.earliest(i), i);
    FootNotes y = Towns.of(FIVE + "note 0 to 1 0;note 2 to 2 0;note 3 to 3 0;note 4 to 4 0;");
    for (int i = 0; i < 5; i++) s.due("earliest(" + i + "), the last first", y.earliest(i), 4 - i);
    FootNotes z = Towns.of(FIVE + "note 0 to 3 0;");
    int[] order = {1, 2, 3, 0, 4};
    for (int i = 0; i < 5; i++) s.due("earliest(" + i + "), of 60", z.earliest(i), order[i]);
    s.says(47, "NONE: there is none such;");
    for (int i : new int[] {5, -1, Integer.MIN_VALUE, Integer.MAX_VALUE}) s.due("earliest(" + i + ")", x.earliest(i), -1);
    s.due("earliest(1) of one book", Towns.of(Towns.BOOK).earliest(1), -1);
    s.due("earliest(0) without books", Towns.of(Towns.BARE).earliest(0), -1);
    s.says(47, "-2 likewise.");
    s.due("earliest(0)", new FootNotes().earliest(0), -2);
    s.due("earliest(-1)", new FootNotes().earliest(-1), -2);
  }
}
