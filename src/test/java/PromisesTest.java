import java.util.Arrays;

/** Each promise of the document with answers worked out by hand: ordinary calls, edges, wrong inputs. */
public final class PromisesTest {
  private static int wrong = 0;

  /**
   * Pages 0 1 2 by scholar 0, 3 4 by 1, 5 6 by 2; notes, by number, 0: 0 to 3, 1: 3 to 4, 2: 4 denies 1,
   * 3: 1 to 0, 4: 0 to 5, 5: 5 to 6, 6: 3 to 6, 7: 2 to a leaf that is not there; the fact is 6.
   */
  private static final String RING = "town opens 3 odds 50;"
      + "book pages 3 by 0;book pages 2 by 1;book pages 2 by 2;"
      + "note 0 to 1 0;note 3 to 1 1;note 4 to 0 1 denies;note 1 to 0 0;"
      + "note 0 to 2 0;note 5 to 2 1;note 3 to 2 1;note 2 to 1 5;"
      + "fact 6;dead 1;dead 3;";
  private static final int RING_LINES = 15;
  private static final String BARE = Towns.BARE;
  private static final String BOOK = Towns.BOOK;

  private static void due(int promise, String call, int got, int want) {
    if (got == want) return;
    wrong++;
    System.out.println("promise " + promise + ": " + call + " answered " + got + ", due is " + want);
  }

  private static FootNotes of(String text) { return Towns.of(text); }

  private static int tell(FootNotes x, String text) { return Towns.tell(x, text); }

  private static int feedAll(FootNotes x, String text) { return Towns.feedAll(x, text); }

  private static void row(FootNotes x, int slot, int width, long... numbers) { Towns.row(x, slot, width, numbers); }

  public static void main(String[] args) {
    newObject();
    fullTown();
    tape();
    towns();
    faults();
    pagesBooksNotes();
    leading();
    acts();
    actLimits();
    takenBack();
    reaching();
    waysToFacts();
    grounds();
    cuts();
    holding();
    loosening();
    turns();
    reading();
    readingRefused();
    sending();
    worths();
    meeting();
    scholars();
    draws();
    counts();
    images();
    slots();
    pastes();
    System.out.println(wrong == 0 ? "PromisesTest: all answers are as due" : "PromisesTest: " + wrong + " answers are not as due");
    if (wrong != 0) System.exit(1);
  }

  private static void newObject() {
    FootNotes x = new FootNotes();
    for (int what = 0; what < 10; what++) due(1, "count(" + what + ")", x.count(what), 0);
    noTown(x, 1);
  }

  /** All calls that need a town or a part of one. */
  private static void noTown(FootNotes x, int promise) {
    int[] got = {x.page(0, 0), x.book(0, 0), x.leaf(0, 0), x.note(0, 0), x.leads(0), x.meant(0), x.astray(),
      x.edition(0, 0), x.tear(0, 0), x.misprint(0, 0), x.undo(), x.anew(), x.reach(0), x.upon(0), x.rings(),
      x.round(0), x.ring(0), x.way(0), x.step(0, 0), x.depth(0), x.deepest(), x.grounded(), x.needs(0), x.loss(0),
      x.key(), x.cut(0), x.torn(0), x.holds(0), x.ways(), x.most(), x.mostly(), x.sure(0), x.loose(0), x.loosely(0),
      x.leaves(0, 0), x.reads(0, 0), x.order(0, 0, 0), x.shares(0, 0), x.first(0, 0), x.sends(), x.orders(),
      x.earliest(0), x.worth(0, 0), x.rest(), x.saint(0), x.meets(0, 1), x.nearest(0, 1), x.third(0, 1), x.cited(0),
      x.famous(0), x.quotes(0, 0), x.drawn(0), x.shaken(0), x.years(0, 1, 0)};
    for (int i = 0; i < got.length; i++) due(promise, "without a town, call " + i, got[i], -2);
  }

  private static void tape() {
    FootNotes x = new FootNotes();
    due(2, "feed", x.feed(0x746f776e, 0x206f7065, 0x6e732031, 0x206f6464, 0x7320303b), 20);
    due(4, "town() of bytes, the highest first", x.town(), 1);
    due(2, "bytes of the tape", x.count(8), 0);
    for (int n = 1; n <= 70; n++) due(2, "feed " + n, x.feed(0, 0, 0, 0, 0), 20 * n);
    due(2, "feed above 1400", x.feed(0, 0, 0, 0, 0), -1);
    due(2, "none come", x.count(8), 1400);
    due(3, "end(1381)", x.end(1381), 1381);
    due(2, "feed above 1400 by one", x.feed(0, 0, 0, 0, 0), -1);
    due(3, "end(1382)", x.end(1382), -1);
    due(3, "end(-1)", x.end(-1), -1);
    due(3, "nothing happens", x.count(8), 1381);
    due(3, "end(1380)", x.end(1380), 1380);
    due(2, "feed to 1400", x.feed(0, 0, 0, 0, 0), 1400);
    due(3, "end(0)", x.end(0), 0);
    due(4, "a full tape of blanks", tell(x, " ".repeat(1400)), 0);
    due(4, "a full tape to the last byte", tell(x, " ".repeat(1380) + BARE), 1);
    due(4, "a full tape that ends too soon", tell(x, " ".repeat(1381) + BARE.substring(0, 19)), -4);
    due(5, "its place", x.fault(1), 1400);
    due(3, "end(0)", x.end(0), 0);
    due(3, "end(0) again", x.end(0), 0);
    due(2, "feed", x.feed(-1, -1, -1, -1, -1), 20);
  }

  private static void towns() {
    FootNotes x = new FootNotes();
    due(4, "RING", tell(x, RING), RING_LINES);
    due(4, "empty then", x.count(8), 0);
    due(4, "acts", x.misprint(0, 1), 0);
    due(4, "a fault", tell(x, "town;"), -4);
    due(4, "all stays: pages", x.count(1), 7);
    due(4, "all stays: acts", x.count(6), 1);
    due(4, "all stays: the tape", x.count(8), 5);
    due(4, "in place of another", tell(x, BARE), 1);
    due(4, "pages", x.count(1), 0);
    due(4, "nothing done to its books", x.count(6), 0);
    due(4, "RING again", tell(x, RING), RING_LINES);
    due(4, "says as at first", x.note(0, 2), 0);
    due(4, "blanks", tell(x, " \n "), 0);
    for (int what = 0; what < 9; what++) due(4, "count(" + what + ") without a town", x.count(what), 0);
    noTown(x, 4);
    due(4, "nothing", x.town(), 0);
    due(4, "tokens without blanks, zeros ahead", tell(x, "\n town opens00000000000020odds 0100 ;book\npages1by4;note0to0 29denies;fact0;dead4;"), 5);
    due(4, "opens", x.count(4), 20);
    due(4, "odds", x.count(5), 100);
    due(4, "denies", x.note(0, 3), 1);
    due(4, "12 pages", tell(x, BARE + "book pages 9 by 0;book pages 1 by 1;book pages 1 by 2;book pages 1 by 3;"), 5);
    due(4, "5 books", tell(x, BARE + "book pages 1 by 0;".repeat(5)), 6);
    due(4, "24 notes", tell(x, BOOK + "note 0 to 0 0;".repeat(24)), 26);
    due(4, "a book behind notes", tell(x, BOOK + "note 0 to 0 0;book pages 1 by 0;note 1 to 1 0;"), 5);
  }

  private static void fault(String text, int code, int place) {
    FootNotes x = new FootNotes();
    due(5, "town() of " + text, tell(x, text), -4);
    due(5, "the fault of " + text, x.fault(0), code);
    due(5, "the fault's place of " + text, x.fault(1), place);
  }

  /** As much of all as there can be: 12 pages on one ring in 5 books, two notes each. */
  private static void fullTown() {
    StringBuilder s = new StringBuilder("town opens 20 odds 100;book pages 8 by 0;");
    for (int b = 1; b < 5; b++) s.append("book pages 1 by ").append(b).append(";");
    for (int n = 0; n < 24; n++) {
      int to = (n / 2 + 1) % 12;
      s.append("note ").append(n / 2).append(" to ").append(Math.max(0, to - 7)).append(" ").append(to < 8 ? to : 0).append(";");
    }
    FootNotes x = of(s + "fact 11;dead 0;dead 1;dead 2;dead 3;dead 4;");
    int all = (1 << 12) - 1;
    for (int p = 0; p < 12; p++) {
      due(10, "leads", x.leads(2 * p + 1), (p + 1) % 12);
      due(18, "reach", x.reach(p), all);
      due(19, "upon", x.upon(p), all);
      due(21, "round", x.round(p), 12);
      due(22, "ring", x.ring(p), all);
      due(23, "way", x.way(p), 11 - p);
      due(24, "step", x.step(0, p), p);
      due(25, "depth", x.depth(p), 12);
      due(28, "needs", x.needs(p), all & -(1 << p));
      due(29, "loss", x.loss(p), p);
      due(32, "torn", x.torn(p), p == 11 ? -1 : 1 << p + 1);
      due(40, "leaves", x.leaves(11, p), p == 11 ? 0 : p + 1);
      due(48, "worth", x.worth(p, 40), 1000);
      due(59, "years", x.years(9, 20, p), p == 11 ? 20 : 0);
    }
    due(12, "astray()", x.astray(), 0);
    due(20, "rings()", x.rings(), all);
    due(27, "grounded()", x.grounded(), all);
    due(30, "key()", x.key(), 11);
    due(33, "holds", x.holds(all), 1);
    due(34, "ways()", x.ways(), 1);
    due(37, "sure(0)", x.sure(0), all);
    due(37, "sure(1)", x.sure(1), 0);
    due(38, "loose(0)", x.loose(0), 0);
    due(39, "loosely(0)", x.loosely(0), all);
    row(x, 0, 0, 8, 7, 6, 5, 4, 3, 2, 1);
    due(41, "reads", x.reads(0, 0), 8);
    for (int i = 0; i < 8; i++) due(42, "order", x.order(0, 0, i), i + 1);
    due(43, "shares", x.shares(0, 0), 8);
    due(44, "first", x.first(0, 0), 0);
    due(45, "sends()", x.sends(), 2);
    due(46, "orders()", x.orders(), 5);
    for (int i = 0; i < 5; i++) due(47, "earliest", x.earliest(i), (5 - i) % 5);
    due(49, "rest()", x.rest(), 1);
    due(50, "saint(40)", x.saint(40), 0);
    due(51, "meets(0, 6)", x.meets(0, 6), all);
    due(52, "nearest(0, 6)", x.nearest(0, 6), 6);
    due(53, "third(6, 0)", x.third(6, 0), 0);
    due(54, "cited(0)", x.cited(0), 16);
    due(54, "cited(4)", x.cited(4), 2);
    due(55, "famous(1)", x.famous(1), 0);
    due(56, "quotes(4, 0)", x.quotes(4, 0), 2);
    due(57, "drawn(9)", x.drawn(9), (1 << 24) - 1);
    due(58, "shaken(9)", x.shaken(9), 1);
  }

  private static void faults() {
    FootNotes x = new FootNotes();
    due(5, "fault(0) ahead of any", x.fault(0), 0);
    due(5, "fault(1) ahead of any", x.fault(1), -1);
    due(5, "fault(2) ahead of any", x.fault(2), -1);
    tell(x, ";");
    due(5, "fault(0)", x.fault(0), 1);
    due(5, "fault(1)", x.fault(1), 0);
    due(5, "fault(2)", x.fault(2), -1);
    due(5, "fault(-1)", x.fault(-1), -1);
    tell(x, BARE);
    due(5, "fault(0) without", x.fault(0), 0);
    due(5, "fault(1) without", x.fault(1), -1);
    misplaced();
    fault("town opens 0 odds 0;", 2, 11);
    fault("town opens 21 odds 101;", 2, 11);
    fault("town opens 99999999999999999999 odds 0;", 2, 11);
    fault("town opens 4294967297 odds 0;", 2, 11);
    fault("town opens 20 odds 101;", 2, 19);
    fault(BARE + "book pages 0 by 0;", 2, 31);
    fault(BARE + "book pages 10 by 0;", 2, 31);
    fault(BARE + "book pages 1 by 5;", 2, 36);
    fault(BARE + "note 0 to 0 0;", 2, 25);
    fault(BOOK + "note 1 to 0 0;", 2, 43);
    fault(BOOK + "note 1 to 0 0;book pages 1 by 0;", 2, 43);
    fault(BOOK + "note 0 to 1 0;", 2, 48);
    fault(BOOK + "note 0 to 0 30;", 2, 50);
    fault(BOOK + "fact 1;", 2, 43);
    fault(BOOK + "fact 0;fact 0;", 2, 50);
    fault(BARE + "dead 5;", 2, 25);
    fault(BARE + "dead 0;dead 0;", 2, 32);
    fault(BARE + "book pages 1 by 0;".repeat(5) + "book", 3, 110);
    fault(BOOK + "note 0 to 0 0;".repeat(24) + "note 9", 3, 374);
    fault(BARE + "book pages 9 by 0;book pages 4 by 9;", 3, 49);
    fault(BARE + "book pages 9 by 0;book pages 10 by 0;", 2, 49);
    fault(BARE + "book pages 9 by 0;book pages 0 by 0;", 2, 49);
  }

  private static void misplaced() {
    fault("book pages 1 by 0;", 1, 0);
    fault(" Town opens 1 odds 0;", 1, 1);
    fault("towns opens 1 odds 0;", 1, 0);
    fault("townz opens 1 odds 0;", 1, 0);
    fault("xown opens 1 odds 0;", 1, 0);
    fault("town opens 1", 1, 12);
    fault("town opens 1 \n", 1, 14);
    fault("town opens 1;", 1, 12);
    fault("town opens 1 odds 0", 1, 19);
    fault("town opens x odds 0;", 1, 11);
    fault("town opens -1 odds 0;", 1, 11);
    fault("town opens 1\todds 0;", 1, 12);
    fault("town opens 1 odds 0\0;", 1, 19);
    fault("town opens 1 odds 0\u00e1;", 1, 19);
    fault(BARE + ";", 1, 20);
    fault(BARE + BARE, 1, 20);
    fault(BARE + "denies;", 1, 20);
    fault(BARE + "7", 1, 20);
    fault(BARE + "dead 0 0;", 1, 27);
    fault(BOOK + "note 0 to 0 0 denied;", 1, 52);
    fault(BOOK + "note 0 to 0 0 denies denies;", 1, 59);
    fault(BOOK + "note 0 to 0;", 1, 49);
    fault(BOOK + "note 0 0 0;", 1, 45);
    fault(BOOK + "fact 9 ? 9;", 2, 43);
  }

  private static void pagesBooksNotes() {
    FootNotes x = of(RING);
    int[][] pages = {{0, 0, 2, 0}, {0, 1, 1, 0}, {0, 2, 1, 0}, {1, 0, 2, 0}, {1, 1, 1, 0}, {2, 0, 1, 0}, {2, 1, 0, 1}};
    for (int p = 0; p < pages.length; p++) for (int w = 0; w < 4; w++) due(6, "page(" + p + ", " + w + ")", x.page(p, w), pages[p][w]);
    due(6, "page(7, 0)", x.page(7, 0), -2);
    due(6, "page(-1, 0)", x.page(-1, 0), -2);
    due(6, "page(0, 4)", x.page(0, 4), -2);
    due(6, "page(0, -1)", x.page(0, -1), -2);
    int[][] books = {{0, 3, 3, 0}, {1, 2, 2, 1}, {2, 2, 2, 0}};
    for (int b = 0; b < books.length; b++) for (int w = 0; w < 4; w++) due(7, "book(" + b + ", " + w + ")", x.book(b, w), books[b][w]);
    due(7, "book(3, 0)", x.book(3, 0), -2);
    due(7, "book(-1, 0)", x.book(-1, 0), -2);
    due(7, "book(0, 4)", x.book(0, 4), -2);
    due(7, "book(0, -1)", x.book(0, -1), -2);
    due(8, "leaf(1, 1)", x.leaf(1, 1), 4);
    due(8, "leaf(1, 2)", x.leaf(1, 2), -1);
    due(8, "leaf(1, -1)", x.leaf(1, -1), -1);
    due(8, "leaf(3, 0)", x.leaf(3, 0), -2);
    due(8, "leaf(-1, -1)", x.leaf(-1, -1), -2);
    int[][] notes = {{0, 1, 0, 0}, {3, 1, 1, 0}, {4, 0, 1, 1}, {1, 0, 0, 0}, {0, 2, 0, 0}, {5, 2, 1, 0}, {3, 2, 1, 0}, {2, 1, 5, 0}};
    for (int n = 0; n < notes.length; n++) for (int w = 0; w < 4; w++) due(9, "note(" + n + ", " + w + ")", x.note(n, w), notes[n][w]);
    due(9, "note(8, 0)", x.note(8, 0), -2);
    due(9, "note(-1, 0)", x.note(-1, 0), -2);
    due(9, "note(0, 4)", x.note(0, 4), -2);
    due(9, "note(0, -1)", x.note(0, -1), -2);
    x.tear(0, 1);
    due(6, "page(1, 1) torn out", x.page(1, 1), -1);
    due(6, "page(1, 2) torn out", x.page(1, 2), 1);
    due(6, "page(2, 1) stays", x.page(2, 1), 2);
    due(7, "book(0, 1) torn", x.book(0, 1), 3);
    x.edition(0, 0);
    due(6, "page(2, 1) moved", x.page(2, 1), 3);
    due(7, "book(0, 1) more", x.book(0, 1), 4);
    due(7, "book(0, 2) at first", x.book(0, 2), 3);
    due(8, "leaf(0, 0) blank", x.leaf(0, 0), -3);
    due(8, "leaf(0, 2) torn out", x.leaf(0, 2), -4);
    x.misprint(0, 29);
    due(9, "note(0, 2) now", x.note(0, 2), 29);
  }

  private static void leading() {
    FootNotes x = of(RING);
    int[] targets = {3, 4, 1, 0, 5, 6, 6, -1};
    for (int n = 0; n < targets.length; n++) {
      due(10, "leads(" + n + ")", x.leads(n), targets[n]);
      due(11, "meant(" + n + ")", x.meant(n), targets[n]);
    }
    due(10, "leads(8)", x.leads(8), -2);
    due(10, "leads(-1)", x.leads(-1), -2);
    due(11, "meant(8)", x.meant(8), -2);
    due(11, "meant(-1)", x.meant(-1), -2);
    due(12, "astray()", x.astray(), 0);
    x.edition(0, 0);
    due(10, "leads(2) to the page that is there now", x.leads(2), 0);
    due(10, "leads(3) to a blank leaf", x.leads(3), -1);
    due(11, "meant(2)", x.meant(2), 1);
    due(11, "meant(3)", x.meant(3), 0);
    due(12, "astray()", x.astray(), 4 + 8);
    x.tear(1, 0);
    due(10, "leads(0) to a torn leaf", x.leads(0), -1);
    due(10, "leads(1) of a torn page", x.leads(1), -1);
    due(10, "leads(6) of a torn page", x.leads(6), -1);
    due(11, "meant(6)", x.meant(6), 6);
    due(12, "astray()", x.astray(), 1 + 2 + 4 + 8 + 64);
    x.misprint(7, 1);
    due(10, "leads(7)", x.leads(7), 4);
    due(11, "meant(7)", x.meant(7), -1);
    due(12, "astray() to one while to none", x.astray(), 1 + 2 + 4 + 8 + 64 + 128);
    x.anew();
    due(12, "astray()", x.astray(), 0);
    FootNotes y = of(BARE + "book pages 2 by 0;book pages 1 by 0;note 0 to 0 2;note 0 to 0 1;");
    due(10, "leads(0) just beyond", y.leads(0), -1);
    due(11, "meant(0) just beyond", y.meant(0), -1);
    due(11, "meant(1) the last", y.meant(1), 1);
  }

  private static void acts() {
    FootNotes x = of(RING);
    due(13, "edition(0, 4)", x.edition(0, 4), -2);
    due(13, "edition(0, -1)", x.edition(0, -1), -2);
    due(13, "edition(3, 0)", x.edition(3, 0), -2);
    due(13, "edition(-1, 0)", x.edition(-1, 0), -2);
    due(14, "tear(0, 3)", x.tear(0, 3), -2);
    due(14, "tear(0, -1)", x.tear(0, -1), -2);
    due(14, "tear(3, 0)", x.tear(3, 0), -2);
    due(15, "misprint(8, 0)", x.misprint(8, 0), -2);
    due(15, "misprint(-1, 0)", x.misprint(-1, 0), -2);
    due(15, "misprint(0, 30)", x.misprint(0, 30), -2);
    due(15, "misprint(0, -1)", x.misprint(0, -1), -2);
    due(13, "acts", x.count(6), 0);
    due(13, "edition(0, 3) behind the last", x.edition(0, 3), 4);
    due(13, "edition(0, 1)", x.edition(0, 1), 5);
    int[] leaves = {0, -3, 1, 2, -3, -1};
    for (int l = 0; l < leaves.length; l++) due(13, "leaf(0, " + l + ")", x.leaf(0, l), leaves[l]);
    due(14, "tear(0, 2)", x.tear(0, 2), 1);
    due(14, "tear(0, 2) again", x.tear(0, 2), -5);
    due(14, "tear(0, 1) blank", x.tear(0, 1), -3);
    due(14, "tear(0, 1) again", x.tear(0, 1), -5);
    int[] after = {0, -4, -4, 2, -3, -1};
    for (int l = 0; l < after.length; l++) due(14, "leaf(0, " + l + ")", x.leaf(0, l), after[l]);
    due(15, "misprint(7, 0)", x.misprint(7, 0), 5);
    due(15, "misprint(7, 29)", x.misprint(7, 29), 0);
    due(15, "note(7, 2)", x.note(7, 2), 29);
    due(15, "misprint(7, 29) as it says", x.misprint(7, 29), 29);
    due(15, "acts", x.count(6), 7);
  }

  private static void actLimits() {
    FootNotes x = of(RING);
    for (int n = 4; n <= 30; n++) due(13, "edition " + n, x.edition(0, 0), n);
    due(13, "31 leaves", x.edition(0, 0), -5);
    due(13, "no such leaf of 30", x.edition(0, 31), -2);
    due(13, "another book", x.edition(1, 0), 3);
    for (int n = 28; n < 40; n++) due(15, "misprint " + n, x.misprint(0, 1), n == 28 ? 0 : 1);
    due(15, "40 acts", x.count(6), 40);
    due(13, "edition after 40 acts", x.edition(2, 0), -5);
    due(14, "tear after 40 acts", x.tear(2, 0), -5);
    due(14, "tear of none after 40 acts", x.tear(2, 2), -2);
    due(15, "misprint after 40 acts", x.misprint(0, 2), -5);
    due(15, "misprint of none after 40 acts", x.misprint(0, 30), -2);
    due(16, "undo", x.undo(), 39);
    due(14, "tear then", x.tear(2, 0), 5);
    due(17, "anew", x.anew(), 40);
    due(17, "leaves", x.book(0, 1), 3);
  }

  private static void takenBack() {
    FootNotes x = of(RING);
    due(16, "undo without acts", x.undo(), -5);
    due(17, "anew without acts", x.anew(), 0);
    x.edition(0, 1);
    x.tear(0, 2);
    x.misprint(2, 3);
    x.edition(0, 0);
    x.tear(0, 2);
    due(16, "leads(2)", x.leads(2), -1);
    due(16, "undo a tear of a blank", x.undo(), 4);
    due(16, "leaf(0, 2)", x.leaf(0, 2), -3);
    due(16, "undo an edition", x.undo(), 3);
    due(16, "leaf(0, 3)", x.leaf(0, 3), 2);
    due(16, "leaf(0, 4)", x.leaf(0, 4), -1);
    due(16, "leads(2)", x.leads(2), 2);
    due(16, "undo a misprint", x.undo(), 2);
    due(16, "note(2, 2)", x.note(2, 2), 1);
    due(16, "undo a tear", x.undo(), 1);
    due(16, "leaf(0, 2)", x.leaf(0, 2), 1);
    due(16, "undo the first", x.undo(), 0);
    due(16, "leaf(0, 2)", x.leaf(0, 2), 2);
    due(16, "undo none", x.undo(), -5);
    x.misprint(0, 1);
    x.tear(1, 1);
    x.edition(1, 0);
    due(17, "anew", x.anew(), 3);
    due(17, "leads(0)", x.leads(0), 3);
    due(17, "leads(1)", x.leads(1), 4);
    due(17, "acts", x.count(6), 0);
  }

  private static void each(int promise, String name, int[] got, int... want) {
    for (int i = 0; i < want.length; i++) due(promise, name + " of page " + i, got[i], want[i]);
  }

  private interface Asked { int of(int page); }

  private static int[] all(Asked asked, int n) {
    int[] out = new int[n];
    for (int i = 0; i < n; i++) out[i] = asked.of(i);
    return out;
  }

  private static void reaching() {
    FootNotes x = of(RING);
    int ring = 1 + 2 + 8 + 16;
    int far = ring + 32 + 64;
    each(18, "reach", all(x::reach, 8), far, far, 0, far, far, 64, 0, -2);
    due(18, "reach(-1)", x.reach(-1), -2);
    each(19, "upon", all(x::upon, 8), ring, ring, 0, ring, ring, ring, ring + 32, -2);
    due(19, "upon(-1)", x.upon(-1), -2);
    due(20, "rings()", x.rings(), ring);
    each(21, "round", all(x::round, 8), 4, 4, -1, 4, 4, -1, -1, -2);
    due(21, "round(-1)", x.round(-1), -2);
    each(22, "ring", all(x::ring, 8), ring, ring, 0, ring, ring, 0, 0, -2);
    due(22, "ring(-1)", x.ring(-1), -2);
    each(25, "depth", all(x::depth, 8), 4, 4, 0, 4, 4, 1, 0, -2);
    due(25, "depth(-1)", x.depth(-1), -2);
    due(26, "deepest()", x.deepest(), 0);
    x.misprint(5, 0);
    due(21, "round(5) by itself", x.round(5), 1);
    due(22, "ring(5) by itself", x.ring(5), 32);
    due(20, "rings()", x.rings(), ring + 32);
    due(25, "depth(5) itself", x.depth(5), 1);
    x.tear(0, 0);
    due(18, "reach(0) torn out", x.reach(0), 0);
    due(18, "reach(3)", x.reach(3), 2 + 16 + 64);
    due(19, "upon(0) torn out", x.upon(0), 0);
    due(20, "rings()", x.rings(), 32);
    due(26, "deepest() now", x.deepest(), 3);
    due(26, "deepest() by 1", of(BARE + "book pages 2 by 0;note 1 to 0 0;").deepest(), 1);
    due(26, "deepest() of none", of(BOOK).deepest(), -1);
    due(26, "deepest() without pages", of(BARE).deepest(), -1);
    due(20, "rings() without pages", of(BARE).rings(), 0);
  }

  private static void waysToFacts() {
    FootNotes x = of(RING);
    each(23, "way", all(x::way, 8), 2, 3, -1, 1, 4, 1, 0, -2);
    due(23, "way(-1)", x.way(-1), -2);
    int[] row = {4, 1, 0, 3, 6, -1};
    for (int i = 0; i < row.length; i++) due(24, "step(4, " + i + ")", x.step(4, i), row[i]);
    due(24, "step(4, -1)", x.step(4, -1), -1);
    due(24, "step(2, 0) without a way", x.step(2, 0), -1);
    due(24, "step(6, 0)", x.step(6, 0), 6);
    due(24, "step(6, 1)", x.step(6, 1), -1);
    due(24, "step(7, 0)", x.step(7, 0), -2);
    due(24, "step(-1, 0)", x.step(-1, 0), -2);
    due(27, "grounded()", x.grounded(), 127 - 4);
    x.tear(1, 0);
    due(23, "way(3) torn out", x.way(3), -1);
    due(24, "step(3, 0) torn out", x.step(3, 0), -1);
    due(23, "way(0) by 5", x.way(0), 2);
    due(24, "step(0, 1) by 5", x.step(0, 1), 5);
    due(27, "grounded()", x.grounded(), 1 + 2 + 16 + 32 + 64);
    x.tear(2, 1);
    due(23, "way(6), a fact, torn out", x.way(6), -1);
    due(27, "grounded()", x.grounded(), 0);
    due(27, "grounded() without pages", of(BARE).grounded(), 0);
  }

  private static void grounds() {
    FootNotes x = of(RING);
    each(28, "needs", all(x::needs, 8), 1 + 64, 1 + 2 + 64, 0, 8 + 64, 1 + 2 + 16 + 64, 32 + 64, 64, -2);
    due(28, "needs(-1)", x.needs(-1), -2);
    each(29, "loss", all(x::loss, 8), 2, 1, 0, 0, 0, 0, 5, -2);
    due(29, "loss(-1)", x.loss(-1), -2);
    due(30, "key()", x.key(), 6);
    x.tear(2, 1);
    due(28, "needs(0) ungrounded", x.needs(0), 0);
    due(29, "loss(6) torn out", x.loss(6), 0);
    due(30, "key() of none", x.key(), -1);
    due(30, "key() by 1", of(BARE + "book pages 2 by 0;note 1 to 0 0;fact 0;").key(), 0);
    due(30, "key() without pages", of(BARE).key(), -1);
    // 1 and 2 both lean on both facts, 4 leans on 3 alone, 3 on 1 alone
    FootNotes y = of(BARE + "book pages 7 by 0;note 1 to 0 0;note 1 to 0 6;note 2 to 0 6;note 2 to 0 0;note 3 to 0 1;note 4 to 0 3;fact 0;fact 6;");
    each(28, "needs", all(y::needs, 7), 1, 2, 4, 2 + 8, 2 + 8 + 16, 0, 64);
    each(29, "loss", all(y::loss, 7), 0, 2, 0, 1, 0, 0, 0);
    due(30, "key()", y.key(), 1);
  }

  private static void cuts() {
    FootNotes x = of(RING);
    each(31, "cut", all(x::cut, 8), 1, 1, 0, 1, 1, 1, -1, -2);
    each(32, "torn", all(x::torn, 8), 64, 1, 0, 64, 1, 64, -1, -2);
    due(31, "cut(-1)", x.cut(-1), -2);
    due(32, "torn(-1)", x.torn(-1), -2);
    x.tear(2, 1);
    due(31, "cut(6), a fact, torn out", x.cut(6), -1);
    due(32, "torn(6), a fact, torn out", x.torn(6), -1);
    due(31, "cut(0) without a way, another fact", of(BARE + "book pages 3 by 0;note 0 to 0 1;fact 2;").cut(0), 0);
    due(31, "cut(0) without a way", x.cut(0), 0);
    due(32, "torn(0) without a way", x.torn(0), 0);
    // 5 leads to 1, 2, 3; these to the facts 0 and 4
    FootNotes y = of(BARE + "book pages 6 by 0;note 5 to 0 1;note 5 to 0 2;note 5 to 0 3;note 1 to 0 0;note 2 to 0 0;note 2 to 0 4;note 3 to 0 4;fact 0;fact 4;");
    due(31, "cut(5)", y.cut(5), 2);
    due(32, "torn(5)", y.torn(5), 1 + 16);
    due(31, "cut(2)", y.cut(2), 2);
    y.tear(0, 1);
    due(32, "torn(5) of two that do, the least", y.torn(5), 4 + 8);
    y.tear(0, 5);
    due(31, "cut(5) torn out", y.cut(5), 0);
    due(32, "torn(5) torn out", y.torn(5), 0);
  }

  private static void holding() {
    FootNotes x = of(RING);
    int[][] sets = {{64, 1}, {0, 0}, {121, 1}, {125, 1}, {127, 0}, {65, 0}, {66, 0}, {72, 0}, {88, 1}, {128, -2}, {-1, -2}};
    for (int[] s : sets) due(33, "holds(" + s[0] + ")", x.holds(s[0]), s[1]);
    due(34, "ways()", x.ways(), 14);
    due(35, "most()", x.most(), 6);
    due(36, "mostly()", x.mostly(), 125);
    due(37, "sure(0)", x.sure(0), 64);
    due(37, "sure(1)", x.sure(1), 2);
    due(37, "sure(2)", x.sure(2), -2);
    due(37, "sure(-1)", x.sure(-1), -2);
    x.tear(2, 1);
    due(33, "holds(0), the fact torn out", x.holds(0), 0);
    due(33, "holds(64), the fact torn out", x.holds(64), 1);
    x.tear(1, 1);
    due(33, "holds(66 + 1 + 8 + 32), the denial torn out", x.holds(66 + 1 + 8 + 32), 1);
    FootNotes y = of(BOOK + "note 0 to 0 0 denies;fact 0;");
    due(34, "ways(), none", y.ways(), 0);
    due(35, "most(), none", y.most(), -1);
    due(36, "mostly(), none", y.mostly(), -1);
    due(37, "sure(0), none", y.sure(0), 0);
    due(37, "sure(1), none", y.sure(1), 0);
    FootNotes z = of(BARE);
    due(33, "holds(0) without pages", z.holds(0), 1);
    due(33, "holds(1) without pages", z.holds(1), -2);
    due(34, "ways() without pages", z.ways(), 1);
    due(35, "most() without pages", z.most(), 0);
    due(36, "mostly() without pages", z.mostly(), 0);
    // 0 denies 1: neither, or one of both
    FootNotes w = of(BARE + "book pages 2 by 0;note 0 to 0 1 denies;");
    due(34, "ways()", w.ways(), 3);
    due(35, "most()", w.most(), 1);
    due(36, "mostly(), the least", w.mostly(), 1);
  }

  private static void loosening() {
    FootNotes x = of(RING);
    int[][] sets = {{0, 0, 64}, {1, 0, 121}, {2, 1, 66}, {3, 1, 99}, {127, 1, 127}, {64, 0, 64}, {128, -2, -2}, {-1, -2, -2}};
    for (int[] s : sets) {
      due(38, "loose(" + s[0] + ")", x.loose(s[0]), s[1]);
      due(39, "loosely(" + s[0] + ")", x.loosely(s[0]), s[2]);
    }
    FootNotes y = of(BARE + "book pages 2 by 0;note 0 to 0 1;note 0 to 0 1 denies;note 0 to 0 1 denies;fact 0;");
    due(38, "loose(0), each note counts", y.loose(0), 1);
    due(39, "loosely(0)", y.loosely(0), 1);
    due(38, "loose(2)", y.loose(2), 2);
    due(39, "loosely(2)", y.loosely(2), 3);
    due(38, "loose(0) without pages", of(BARE).loose(0), 0);
    due(39, "loosely(0) without pages", of(BARE).loosely(0), 0);
  }

  private static void turns() {
    FootNotes x = of(RING);
    int[][] pairs = {{0, 1, 1}, {0, 6, 2}, {6, 0, 3}, {6, 2, 5}, {2, 3, 3}, {2, 4, 4}, {3, 3, 0}, {6, 4, 4}, {2, 0, 2}, {4, 1, 1},
      {0, 7, -2}, {7, 0, -2}, {-1, 0, -2}, {0, -1, -2}};
    for (int[] p : pairs) due(40, "leaves(" + p[0] + ", " + p[1] + ")", x.leaves(p[0], p[1]), p[2]);
    x.edition(0, 1);
    x.tear(0, 2);
    due(40, "leaves(0, 2) by a blank and a torn one", x.leaves(0, 2), 3);
    due(40, "leaves(0, 1) torn out", x.leaves(0, 1), -1);
    due(40, "leaves(1, 0) torn out", x.leaves(1, 0), -1);
    due(40, "leaves(1, 1) torn out", x.leaves(1, 1), -1);
    x.anew();
    x.tear(0, 0);
    due(40, "leaves(4, 2) by a note", x.leaves(4, 2), 2);
    due(40, "leaves(6, 1), a torn leaf opened", x.leaves(6, 1), 4);
    due(40, "leaves(2, 1)", x.leaves(2, 1), 1);
    wideBooks();
    // opening one's own book again is shorter than leafing back
    due(40, "leaves(8, 0)", of(BARE + "book pages 9 by 0;").leaves(8, 0), 1);
  }

  /** 30 leaves and 12: the pages stand on the last ones, and no leaf is beside one of another book. */
  private static void wideBooks() {
    FootNotes x = of("town opens 20 odds 0;book pages 1 by 0;book pages 1 by 1;");
    for (int i = 0; i < 29; i++) x.edition(0, 0);
    due(40, "leaves(0, 1) of another book", x.leaves(0, 1), 20);
    due(40, "leaves(1, 0) by 29 leaves", x.leaves(1, 0), 49);
    for (int i = 0; i < 11; i++) x.edition(1, 0);
    due(40, "leaves(0, 1) by 11 leaves", x.leaves(0, 1), 31);
    due(40, "leaves(1, 0) by 29 leaves", x.leaves(1, 0), 49);
  }

  private static void reading() {
    FootNotes x = of(RING);
    row(x, 0, 0, 4, 2, 6);
    due(41, "reads", x.reads(0, 0), 8);
    int[] order = {4, 2, 6, -1};
    for (int i = 0; i < order.length; i++) due(42, "order " + i, x.order(0, 0, i), order[i]);
    due(42, "order -1", x.order(0, 0, -1), -1);
    due(43, "shares", x.shares(0, 0), 4);
    due(44, "first", x.first(0, 0), 2);
    row(x, 1, 3);
    due(41, "reads nothing", x.reads(1, 0), 0);
    due(42, "order of nothing", x.order(1, 0, 0), -1);
    due(43, "shares nothing", x.shares(1, 0), 0);
    due(44, "first of nothing", x.first(1, 0), 0);
    row(x, 2, 2, 0, 6, 0, 5);
    due(41, "reads itself, twice", x.reads(2, 0), 2);
    due(42, "order 0", x.order(2, 0, 0), 0);
    due(42, "order 1", x.order(2, 0, 1), 0);
    due(42, "order 2", x.order(2, 0, 2), 5);
    due(42, "order 3", x.order(2, 0, 3), 6);
    due(43, "shares", x.shares(2, 0), 2);
    due(44, "first, none", x.first(2, 0), 0);
    row(x, 3, 1, 6, 6, 6, 6, 6, 6, 6, 6);
    due(41, "reads eight", x.reads(3, 0), 2);
    // each page in a book of its own, opened for 1
    FootNotes y = of(BARE + "book pages 1 by 0;".repeat(5));
    row(y, 0, 0, 4, 3, 2, 1);
    due(41, "reads", y.reads(0, 0), 4);
    due(42, "order by places, not pages", y.order(0, 0, 0), 4);
    due(43, "shares", y.shares(0, 0), 2);
    due(44, "first, the least set", y.first(0, 0), 3);
  }

  private static void tripsAnswer(String state, FootNotes x, int slot, int page, int want) {
    due(41, "reads, " + state, x.reads(slot, page), want);
    due(42, "order, " + state, x.order(slot, page, 0), want);
    due(43, "shares, " + state, x.shares(slot, page), want);
    due(44, "first, " + state, x.first(slot, page), want);
  }

  private static void readingRefused() {
    FootNotes x = of(RING);
    tripsAnswer("no row", x, 0, 0, -6);
    tripsAnswer("no row, no page", x, 0, 7, -2);
    row(x, 0, 0, 1, 7);
    row(x, 1, 0, 0, 1, 0, 1, 0, 1, 0, 1, 0);
    row(x, 2, 0, 1, 2);
    row(x, 3, 3, 0, 0);
    tripsAnswer("no slot", x, 4, 0, -2);
    tripsAnswer("no slot below 0", x, -1, 0, -2);
    tripsAnswer("no page", x, 2, 7, -2);
    tripsAnswer("no page below 0", x, 2, -1, -2);
    tripsAnswer("a number is none", x, 0, 0, -2);
    tripsAnswer("more than eight", x, 1, 0, -2);
    due(42, "order of more than eight beyond", x.order(1, 0, 99), -2);
    x.write(3, 0, -1);
    tripsAnswer("a number below 0", x, 3, 0, -2);
    x.write(3, 0, 1L << 32);
    tripsAnswer("a number of eight bytes", x, 3, 0, -2);
    x.tear(0, 1);
    tripsAnswer("one torn out", x, 2, 0, -1);
    tripsAnswer("the first one torn out", x, 3, 1, -2);
    x.write(3, 0, 0);
    tripsAnswer("the first one torn out alone", x, 3, 1, -1);
    tripsAnswer("one torn out, a number is none", x, 0, 0, -2);
    tripsAnswer("one torn out, more than eight asked last", x, 1, 0, -1);
    x.row(1, 0, 60);
    tripsAnswer("sixty", x, 1, 0, -2);
    x.anew();
    x.tear(0, 0);
    row(x, 2, 0, 1);
    due(41, "reads of a row without what is torn out", x.reads(2, 1), 0);
  }

  private static void sending() {
    FootNotes x = of(RING);
    due(45, "sends()", x.sends(), 1);
    due(46, "orders()", x.orders(), 2);
    int[] order = {2, 0, 1, -1};
    for (int i = 0; i < order.length; i++) due(47, "earliest(" + i + ")", x.earliest(i), order[i]);
    due(47, "earliest(-1)", x.earliest(-1), -1);
    x.tear(1, 1);
    due(45, "sends() without the way back", x.sends(), 0);
    due(46, "orders()", x.orders(), 1);
    due(47, "earliest(1)", x.earliest(1), 1);
    FootNotes y = of(BARE + "book pages 1 by 0;".repeat(5));
    due(45, "sends() of none", y.sends(), 0);
    due(46, "orders() of none", y.orders(), 120);
    due(47, "earliest(4)", y.earliest(4), 4);
    FootNotes z = of(BARE);
    due(45, "sends() without books", z.sends(), 0);
    due(46, "orders() without books", z.orders(), 1);
    due(47, "earliest(0) without books", z.earliest(0), -1);
  }

  private static void worths() {
    FootNotes x = of(RING);
    for (int p = 0; p < 7; p++) due(48, "worth(" + p + ", 0)", x.worth(p, 0), 1000);
    int[] one = {1000, 1000, 1000, 500, 500, 500, 2500};
    int[] two = {1000, 500, 1000, 500, 250, 500, 3250};
    for (int p = 0; p < 7; p++) {
      due(48, "worth(" + p + ", 1)", x.worth(p, 1), one[p]);
      due(48, "worth(" + p + ", 2)", x.worth(p, 2), two[p]);
    }
    due(48, "worth(7, 0)", x.worth(7, 0), -2);
    due(48, "worth(-1, 0)", x.worth(-1, 0), -2);
    due(48, "worth(0, 41)", x.worth(0, 41), -2);
    due(48, "worth(0, -1)", x.worth(0, -1), -2);
    due(50, "saint(0)", x.saint(0), 0);
    due(50, "saint(1)", x.saint(1), 6);
    due(50, "saint(40)", x.saint(40), 6);
    due(50, "saint(41)", x.saint(41), -2);
    due(50, "saint(-1)", x.saint(-1), -2);
    FootNotes y = of(BARE + "book pages 3 by 0;note 0 to 0 1;note 0 to 0 1;note 0 to 0 2;note 0 to 0 9;");
    due(48, "worth(0, 1), left over", y.worth(0, 1), 1);
    due(48, "worth(1, 1), two parts", y.worth(1, 1), 1666);
    due(48, "worth(2, 1)", y.worth(2, 1), 1333);
    due(49, "rest()", y.rest(), 2);
    FootNotes z = of(BARE + "book pages 3 by 0;note 0 to 0 1;note 1 to 0 0;note 2 to 0 0;");
    due(49, "rest() never", z.rest(), -1);
    due(48, "worth(1, 40)", z.worth(1, 40), 2000);
    due(48, "worth(1, 39)", z.worth(1, 39), 1000);
    z.tear(0, 2);
    due(49, "rest() of the first", z.rest(), 1);
    due(48, "worth(2, 40) torn out", z.worth(2, 40), 1000);
    String half = BARE + "book pages 2 by 0;" + "note 0 to 0 0;".repeat(16) + "note 0 to 0 1;note 0 to 0 1;";
    due(49, "rest() of the 40th", of(half).rest(), 40);
    due(49, "rest() of the 41st or later", of(half.replaceFirst("note 0 to 0 1;", "note 0 to 0 0;")).rest(), -1);
    FootNotes w = of(BARE);
    due(49, "rest() without pages", w.rest(), 1);
    due(50, "saint(3) without pages", w.saint(3), -1);
    due(50, "saint(41) without pages", w.saint(41), -2);
  }

  private static void meets(FootNotes x, int page, int other, int set, int fewest, int which) {
    String pair = "(" + page + ", " + other + ")";
    due(51, "meets" + pair, x.meets(page, other), set);
    due(52, "nearest" + pair, x.nearest(page, other), fewest);
    due(53, "third" + pair, x.third(page, other), which);
  }

  private static void meeting() {
    FootNotes x = of(RING);
    meets(x, 0, 4, 123, 2, 0);
    meets(x, 4, 0, 123, 2, 0);
    meets(x, 3, 5, 32 + 64, 2, 6);
    meets(x, 5, 6, 64, 1, 6);
    meets(x, 2, 0, 0, -1, -1);
    meets(x, 2, 2, -2, -2, -2);
    meets(x, 7, 0, -2, -2, -2);
    meets(x, 0, -1, -2, -2, -2);
    x.tear(2, 1);
    meets(x, 5, 6, 0, -1, -1);
  }

  private static void scholars() {
    FootNotes x = of(RING);
    int[] cited = {2, 2, 3, 0, 0, -2};
    for (int s = 0; s < cited.length; s++) due(54, "cited(" + s + ")", x.cited(s), cited[s]);
    due(54, "cited(-1)", x.cited(-1), -2);
    due(55, "famous(0)", x.famous(0), 2);
    due(55, "famous(1)", x.famous(1), 1);
    due(55, "famous(2)", x.famous(2), -2);
    due(55, "famous(-1)", x.famous(-1), -2);
    int[][] quotes = {{1, 1, 1}, {1, 1, 1}, {0, 0, 1}};
    for (int s = 0; s < 3; s++) for (int o = 0; o < 3; o++) due(56, "quotes(" + s + ", " + o + ")", x.quotes(s, o), quotes[s][o]);
    due(56, "quotes(4, 4)", x.quotes(4, 4), 0);
    due(56, "quotes(5, 0)", x.quotes(5, 0), -2);
    due(56, "quotes(0, -1)", x.quotes(0, -1), -2);
    x.tear(2, 1);
    due(54, "cited(2) now", x.cited(2), 1);
    due(55, "famous(0), the first of several", x.famous(0), 0);
    due(56, "quotes(2, 2) now", x.quotes(2, 2), 0);
    x.tear(1, 0);
    x.tear(1, 1);
    due(55, "famous(1), none leads", x.famous(1), -1);
    due(55, "famous(1), none is dead", of(BOOK + "note 0 to 0 0;").famous(1), -1);
    due(55, "famous(0)", of(BOOK + "note 0 to 0 0;").famous(0), 0);
    due(55, "famous(0), none leads", of(BARE).famous(0), -1);
  }

  /** From seed 1 the draws are 38 58 13 15 51 27 10 19, as those of the C standard's rand() are. */
  private static void draws() {
    FootNotes x = of(RING);
    due(57, "drawn(1)", x.drawn(1), 1 + 4 + 8 + 32 + 64 + 128);
    due(57, "drawn(2000000001)", x.drawn(2000000001), -2);
    due(57, "drawn(-1)", x.drawn(-1), -2);
    due(57, "nothing is done", x.astray() + x.count(6), 0);
    due(58, "shaken(1)", x.shaken(1), 1);
    due(58, "shaken(-1)", x.shaken(-1), -2);
    due(58, "shaken(2000000001)", x.shaken(2000000001), -2);
    due(59, "years(1, 1, 6)", x.years(1, 1, 6), 1);
    due(59, "years(1, 1, 0)", x.years(1, 1, 0), 0);
    due(59, "years(2000000000, 20, 6)", x.years(2000000000, 20, 6), 20);
    int[][] none = {{1, 0, 0}, {1, 21, 0}, {-1, 1, 0}, {2000000001, 1, 0}, {1, 1, 7}, {1, 1, -1}};
    for (int[] n : none) due(59, "years(" + n[0] + ", " + n[1] + ", " + n[2] + ")", x.years(n[0], n[1], n[2]), -2);
    // the first draw from 1 is 38
    FootNotes y = of("town opens 1 odds 38;book pages 2 by 0;note 0 to 0 1;fact 1;");
    due(57, "drawn(1), not below", y.drawn(1), 0);
    due(58, "shaken(1)", y.shaken(1), 2);
    FootNotes z = of("town opens 1 odds 39;book pages 2 by 0;note 0 to 0 1;fact 1;");
    due(57, "drawn(1), below", z.drawn(1), 1);
    due(58, "shaken(1)", z.shaken(1), 1);
    due(59, "years(1, 1, 0)", z.years(1, 1, 0), 0);
    // first draws from 0, 1, 2: 12345 / 65536 is 0; 38; x = 2207042835 - 2^31 = 59559187, / 65536 = 908: 8
    due(59, "years(0, 3, 0)", z.years(0, 3, 0), 0);
    due(59, "years(0, 3, 0) by odds 38", y.years(0, 3, 0), 1);
    z.misprint(0, 0);
    due(58, "shaken(1) from what it says now", z.shaken(1), 2);
    // behind leaf 29 there is never another one
    FootNotes w = of("town opens 1 odds 100;book pages 2 by 0;note 0 to 0 29;note 1 to 0 0;fact 1;");
    due(57, "drawn(5), all", w.drawn(5), 3);
    due(58, "shaken(5)", w.shaken(5), 1);
  }

  private static void counts() {
    FootNotes x = of(RING);
    x.misprint(0, 0);
    feedAll(x, BARE);
    x.row(3, 0, 0);
    int[] want = {3, 7, 8, 1, 3, 50, 1, RING_LINES, 20, 1, -1};
    for (int w = 0; w < want.length; w++) due(60, "count(" + w + ")", x.count(w), want[w]);
    due(60, "count(-1)", x.count(-1), -1);
  }

  private static void images() {
    FootNotes x = new FootNotes();
    due(61, "image(3)", x.image(3), -2);
    due(61, "image(-1)", x.image(-1), -2);
    due(62, "back(3)", x.back(3), -2);
    due(62, "back(-1)", x.back(-1), -2);
    for (int k = 0; k < 3; k++) due(62, "back(" + k + ")", x.back(k), -6);
    due(61, "image(2) without a town", x.image(2), 0);
    tell(x, RING);
    x.tear(1, 0);
    x.edition(0, 0);
    due(61, "image(0)", x.image(0), 0);
    x.undo();
    x.misprint(5, 0);
    due(61, "image(1)", x.image(1), 0);
    tell(x, BOOK);
    feedAll(x, BARE);
    x.row(0, 0, 1);
    due(62, "back(0)", x.back(0), 0);
    due(62, "acts", x.count(6), 2);
    due(62, "leaf(0, 0)", x.leaf(0, 0), -3);
    due(62, "leads(5)", x.leads(5), 6);
    due(62, "the tape stays", x.count(8), 20);
    due(62, "the slots stay", x.count(9), 1);
    due(62, "undo", x.undo(), 1);
    due(62, "leaf(0, 0)", x.leaf(0, 0), 0);
    due(62, "undo", x.undo(), 0);
    due(62, "leaf(1, 0)", x.leaf(1, 0), 3);
    due(62, "back(1)", x.back(1), 0);
    due(62, "leads(5)", x.leads(5), 5);
    due(62, "undo", x.undo(), 1);
    due(62, "back(0) again, as it was kept", x.back(0), 0);
    due(62, "acts", x.count(6), 2);
    due(62, "back(2)", x.back(2), 0);
    noTown(x, 62);
    tell(x, RING);
    x.tear(2, 1);
    x.image(1);
    x.anew();
    x.back(1);
    due(62, "leaf(2, 1)", x.leaf(2, 1), -4);
  }

  private static void slots() {
    FootNotes x = of(RING);
    int[][] rows = {{4, 0, 1, -2}, {-1, 0, 1, -2}, {0, 4, 1, -2}, {0, -1, 1, -2}, {0, 0, 61, -2}, {0, 0, -1, -3}, {4, 0, -1, -2}};
    for (int[] r : rows) due(63, "row(" + r[0] + ", " + r[1] + ", " + r[2] + ")", x.row(r[0], r[1], r[2]), r[3]);
    due(63, "none has a row", x.count(9), 0);
    due(64, "write(0, 0, 1) to nothing", x.write(0, 0, 1), -6);
    due(64, "write(4, 0, 1)", x.write(4, 0, 1), -2);
    due(64, "write(-1, 0, 1)", x.write(-1, 0, 1), -2);
    due(63, "row of 60", x.row(0, 3, 60), 0);
    due(64, "write(0, 59, 1)", x.write(0, 59, 1), 0);
    due(64, "write(0, 60, 1)", x.write(0, 60, 1), -7);
    due(64, "write(0, -1, 1)", x.write(0, -1, 1), -7);
    for (int width = 0; width < 4; width++) widths(x, width);
    x.row(0, 0, 1);
    x.write(0, 0, 5);
    due(63, "row(0, 0, -1)", x.row(0, 0, -1), -3);
    due(63, "the slot stays", x.order(0, 0, 0), 5);
    x.row(0, 0, 1);
    due(63, "all 0", x.order(0, 3, 0), 0);
  }

  /** A number's bytes beyond its width are cut off, those within are not. */
  private static void widths(FootNotes x, int width) {
    x.row(1, width, 1);
    int bits = 8 << width;
    long beyond = bits < 64 ? 1L << bits : 0;
    due(64, "write", x.write(1, 0, -8 * beyond + 5), 0);
    due(64, "cut to width " + width, x.order(1, 0, 0), 5);
    x.write(1, 0, (1L << bits - 1) + 5);
    due(64, "not cut within width " + width, x.order(1, 0, 0), -2);
  }

  private static void pastes() {
    FootNotes y = of(BARE + "book pages 9 by 0;");
    row(y, 0, 0, 1, 2, 3, 4);
    row(y, 1, 0, 8);
    row(y, 2, 1, 0);
    int[][] none = {{4, 0, 0, 0, 0, -2}, {0, 0, 4, 0, 0, -2}, {-1, 0, 3, 0, 0, -2}, {3, 0, 0, 0, 0, -6}, {0, 0, 3, 9, 9, -6},
      {0, 0, 2, 0, 0, -8}, {2, 9, 0, 9, 9, -8}, {0, 1, 0, 0, 4, -7}, {0, 0, 0, 1, 4, -7}, {0, 0, 1, 0, 2, -7}, {0, -1, 1, 0, 1, -7},
      {0, 0, 1, -1, 1, -7}, {0, 0, 1, 0, -1, -7}, {0, 5, 1, 0, 0, -7}, {0, 0, 1, 2, 0, -7},
      {0, 1, 0, 1, Integer.MAX_VALUE, -7}, {0, Integer.MAX_VALUE, 0, 1, 1, -7}};
    for (int[] n : none) due(65, "paste" + Arrays.toString(n), y.paste(n[0], n[1], n[2], n[3], n[4]), n[5]);
    places(y, 0, 1, 2, 3, 4);
    due(65, "paste none", y.paste(0, 4, 1, 1, 0), 0);
    due(65, "paste to its own, ahead", y.paste(0, 0, 0, 1, 3), 0);
    places(y, 0, 1, 1, 2, 3);
    due(65, "paste to its own, back", y.paste(0, 1, 0, 0, 3), 0);
    places(y, 0, 1, 2, 3, 3);
    due(65, "paste to another", y.paste(1, 0, 0, 2, 1), 0);
    places(y, 0, 1, 2, 8, 3);
    due(65, "paste from one on", y.paste(0, 3, 1, 0, 1), 0);
    places(y, 1, 3);
    places(y, 0, 1, 2, 8, 3);
  }

  /** What stands at each place of a row: pasted alone into a row of one, it is read there. */
  private static void places(FootNotes y, int slot, int... want) {
    for (int i = 0; i < want.length; i++) {
      y.row(3, 0, 1);
      y.paste(slot, i, 3, 0, 1);
      due(65, "number " + i + " of slot " + slot, y.order(3, 0, 0), want[i]);
      due(65, "beyond", y.paste(slot, want.length, 3, 0, 1), -7);
    }
  }
}
