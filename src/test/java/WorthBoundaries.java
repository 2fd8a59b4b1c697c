import java.util.function.IntBinaryOperator;

/** The boundary cases of worth, meeting, scholars and draws: terms V and VI, promises 48 to 59. */
final class WorthBoundaries {
  private static final int[] FAR = {-1, Integer.MIN_VALUE, Integer.MAX_VALUE};
  private static final int LAST_SEED = 2000000000;

  /** From seed 1: what the C standard's rand() gives, modulo 100. */
  private static final int[] FROM_1 = {38, 58, 13, 15, 51, 27, 10, 19, 12, 86, 49, 67, 84, 60, 25, 43, 89, 83, 37, 66, 66, 78, 95, 11};
  private static final int[] FROM_0 = {0, 68, 88, 17, 98, 27, 45, 41, 22, 10, 61, 52, 59, 58, 87, 75, 68, 33, 12, 61, 96, 91, 65, 71};
  private static final int[] FROM_LAST = {4, 33, 21, 7, 26, 92, 57, 97, 15, 54, 27, 70, 64, 18, 71, 73, 65, 47, 19, 21, 41, 1, 33, 52};
  /** The first draws from the last seed and those behind it. */
  private static final int[] BEHIND_LAST = {4, 42, 12, 51, 21, 59, 30, 68, 38, 76, 47, 85, 55, 94, 64, 2, 73, 11, 81, 20};

  private final Sentences s;
  private final FootNotes none = new FootNotes();
  private final FootNotes bare = Towns.of(Towns.BARE);

  WorthBoundaries(Sentences s) { this.s = s; }

  void run() {
    rounds();
    worth();
    rest();
    saint();
    meets();
    nearest();
    third();
    cited();
    famous();
    quotes();
    drawing();
    drawn();
    shaken();
    years();
  }

  private void worths(FootNotes x, int n, int... want) {
    for (int p = 0; p < want.length; p++) s.due("worth(" + p + ", " + n + ")", x.worth(p, n), want[p]);
  }

  private void rounds() {
    s.says("V", "WORTH: 1,000 at first for each PAGE.");
    FootNotes x = Towns.ofPages(3, "note 0 to 0 1;note 1 to 0 2;");
    worths(x, 0, 1000, 1000, 1000);
    x.tear(0, 1);
    worths(x, 0, 1000, 1000, 1000);
    x.undo();
    s.says("V", "A round, for all at once:");
    worths(x, 1, 0, 1000, 2000);
    worths(x, 2, 0, 0, 3000);
    s.says("V", "a PAGE whose NOTES lead to PAGES gives its WORTH to these in like parts, cut");
    worths(Towns.ofPages(4, "note 0 to 0 1;note 0 to 0 2 denies;note 0 to 0 3;note 0 to 0 9;"), 1, 1, 1333, 1333, 1333);
    x.tear(0, 0);
    worths(x, 1, 1000, 0, 2000);
    FootNotes none = Towns.ofPages(2, "note 0 to 0 2;");
    worths(none, 1, 1000, 1000);
    s.says("V", "(a PAGE to which two lead two parts),");
    worths(Towns.ofPages(3, "note 0 to 0 1;note 0 to 0 1;note 0 to 0 2;"), 1, 1, 1666, 1333);
    worths(Towns.ofPages(2, "note 0 to 0 0;note 0 to 0 1;note 0 to 0 1;"), 1, 334, 1666);
    s.says("V", "and keeps what is left over.");
    FootNotes y = Towns.ofPages(2, "note 0 to 0 1;".repeat(24));
    worths(y, 1, 16, 1984);
    worths(y, 2, 16, 1984);
    worths(y, 40, 16, 1984);
    FootNotes z = Towns.of(Towns.BARE + "book pages 9 by 0;book pages 3 by 0;note 11 to 0 0;note 0 to 1 2;note 0 to 0 1;");
    worths(z, 1, 1000, 1500, 1000, 1000, 1000, 1000, 1000, 1000, 1000, 1000, 1000, 500);
  }

  private void worth() {
    FootNotes x = Towns.ofPages(3, "note 0 to 0 1;note 1 to 0 0;note 2 to 0 0;");
    s.says(48, "WORTH (V) of a PAGE behind n (0 .. 40) rounds.");
    worths(x, 0, 1000, 1000, 1000);
    worths(x, 1, 2000, 1000, 0);
    worths(x, 2, 1000, 2000, 0);
    worths(x, 39, 2000, 1000, 0);
    worths(x, 40, 1000, 2000, 0);
    s.says(48, "-2: there are none such.");
    for (int n : FAR) {
      s.due("worth(0, " + n + ")", x.worth(0, n), -2);
      s.due("worth(" + n + ", 0)", x.worth(n, 0), -2);
    }
    s.due("worth(0, 41)", x.worth(0, 41), -2);
    s.due("worth(3, 0)", x.worth(3, 0), -2);
    s.due("worth(0, 0) without books", bare.worth(0, 0), -2);
    s.due("worth(0, 0) without a town", none.worth(0, 0), -2);
  }

  /** Page 0 keeps all but so many of 18 parts. */
  private static FootNotes slow(int given) {
    return Towns.ofPages(2, "note 0 to 0 0;".repeat(18 - given) + "note 0 to 0 1;".repeat(given));
  }

  private void rest() {
    s.says(49, "The first round behind which all WORTHS are as ahead of it.");
    s.due("rest() without notes", Towns.of(Towns.BOOK).rest(), 1);
    s.due("rest() of a ring", Towns.ofPages(2, "note 0 to 0 1;note 1 to 0 0;").rest(), 1);
    s.due("rest() of one gift", Towns.ofPages(2, "note 0 to 0 1;").rest(), 2);
    s.due("rest() of a chain", Towns.ofPages(3, "note 0 to 0 1;note 1 to 0 2;").rest(), 3);
    s.due("rest() of the 40th", slow(2).rest(), 40);
    s.due("rest() without books", bare.rest(), 1);
    s.says(49, "NONE: in none of 40;");
    FootNotes slower = slow(1);
    s.due("rest() later than the 40th", slower.rest(), -1);
    s.due("it changes by the 40th", slower.worth(0, 39) - slower.worth(0, 40) > 0 ? 1 : 0, 1);
    s.due("rest() never", Towns.ofPages(3, "note 0 to 0 1;note 1 to 0 0;note 2 to 0 0;").rest(), -1);
    s.says(49, "-2: there is no TOWN.");
    s.due("rest()", none.rest(), -2);
  }

  private void saint() {
    FootNotes x = Towns.ofPages(3, "note 0 to 0 1;note 1 to 0 0;note 2 to 0 0;");
    s.says(50, "The PAGE with the greatest WORTH behind n rounds, the first of several.");
    s.due("saint(0), all alike", x.saint(0), 0);
    s.due("saint(1)", x.saint(1), 0);
    s.due("saint(2)", x.saint(2), 1);
    s.due("saint(39)", x.saint(39), 0);
    s.due("saint(40)", x.saint(40), 1);
    s.due("saint(1), the last", Towns.ofPages(3, "note 0 to 0 2;note 1 to 0 2;").saint(1), 2);
    s.due("saint(1), two alike behind a lesser", Towns.ofPages(4, "note 0 to 0 1;note 3 to 0 2;").saint(1), 1);
    s.says(50, "NONE: there are no PAGES;");
    s.due("saint(0)", bare.saint(0), -1);
    s.due("saint(40)", bare.saint(40), -1);
    s.says(50, "-2: there is no such n, no TOWN.");
    s.due("saint(41)", x.saint(41), -2);
    for (int n : FAR) s.due("saint(" + n + ")", x.saint(n), -2);
    s.due("saint(41), no pages", bare.saint(41), -2);
    s.due("saint(0)", none.saint(0), -2);
  }

  /** 0 to 1 to 2; 3 to 2; 4 alone; 5 and 6 lead to each other. */
  private static FootNotes meeting() {
    return Towns.ofPages(7, "note 0 to 0 1;note 1 to 0 2;note 3 to 0 2;note 5 to 0 6;note 6 to 0 5;");
  }

  /** 1 and 2 both lead to 0 and to 3, 3 to 4. */
  private static FootNotes toFirst() {
    return Towns.ofPages(5, "note 1 to 0 3;note 2 to 0 3;note 1 to 0 0;note 2 to 0 0;note 3 to 0 4;");
  }

  private void noPairs(String name, IntBinaryOperator asked, IntBinaryOperator withoutBooks, IntBinaryOperator withoutTown) {
    s.due(name + "(7, 0)", asked.applyAsInt(7, 0), -2);
    s.due(name + "(0, 7)", asked.applyAsInt(0, 7), -2);
    for (int p : FAR) {
      s.due(name + "(" + p + ", 0)", asked.applyAsInt(p, 0), -2);
      s.due(name + "(0, " + p + ")", asked.applyAsInt(0, p), -2);
      s.due(name + "(" + p + ", " + p + ")", asked.applyAsInt(p, p), -2);
    }
    s.due(name + "(0, 1) without books", withoutBooks.applyAsInt(0, 1), -2);
    s.due(name + "(0, 1) without a town", withoutTown.applyAsInt(0, 1), -2);
    s.due(name + "(2, 2), one twice", asked.applyAsInt(2, 2), -2);
    s.due(name + "(5, 5), one twice, round", asked.applyAsInt(5, 5), -2);
  }

  private void meets() {
    FootNotes x = meeting();
    s.says(51, "PAGES to which one comes from both of two PAGES (0 NOTES, too), as bits.");
    s.due("meets(0, 3)", x.meets(0, 3), 4);
    s.due("meets(0, 1), one itself", x.meets(0, 1), 6);
    s.due("meets(1, 0)", x.meets(1, 0), 6);
    s.due("meets(2, 0), one itself", x.meets(2, 0), 4);
    s.due("meets(5, 6), both", x.meets(5, 6), 96);
    s.due("meets(0, 4), none", x.meets(0, 4), 0);
    x.tear(0, 2);
    s.due("meets(0, 2), torn out", x.meets(0, 2), 0);
    s.due("meets(0, 3), the third torn out", x.meets(0, 3), 0);
    s.says(51, "-2: there are none such, one twice.");
    noPairs("meets", x::meets, bare::meets, none::meets);
  }

  private void nearest() {
    FootNotes x = meeting();
    s.says(52, "The fewest NOTES of both together to one of these.");
    s.due("nearest(0, 3)", x.nearest(0, 3), 3);
    s.due("nearest(3, 0)", x.nearest(3, 0), 3);
    s.due("nearest(0, 1), by one alone", x.nearest(0, 1), 1);
    s.due("nearest(5, 6)", x.nearest(5, 6), 1);
    s.due("nearest(1, 2), in page 0", toFirst().nearest(1, 2), 2);
    StringBuilder b = new StringBuilder(Towns.BARE + "book pages 9 by 0;book pages 3 by 0;");
    for (int p = 0; p < 11; p++) b.append("note ").append(p).append(" to ").append((p + 1) / 9).append(" ").append((p + 1) % 9).append(";");
    s.due("nearest(0, 11), by 11 notes", Towns.of(b.toString()).nearest(0, 11), 11);
    s.says(52, "NONE: there is none;");
    s.due("nearest(0, 4)", x.nearest(0, 4), -1);
    s.due("nearest(4, 5)", x.nearest(4, 5), -1);
    x.tear(0, 2);
    s.due("nearest(0, 2), torn out", x.nearest(0, 2), -1);
    s.says(52, "-2 likewise.");
    noPairs("nearest", x::nearest, bare::nearest, none::nearest);
  }

  private void third() {
    FootNotes x = meeting();
    s.says(53, "Which, the least of several.");
    s.due("third(0, 3)", x.third(0, 3), 2);
    s.due("third(0, 1), not the farther", x.third(0, 1), 1);
    s.due("third(5, 6), of both", x.third(5, 6), 5);
    s.due("third(6, 5), of both", x.third(6, 5), 5);
    s.due("third(1, 2), page 0 and another", toFirst().third(1, 2), 0);
    FootNotes y = Towns.ofPages(5, "note 3 to 0 2;note 4 to 0 2;note 4 to 0 1;note 3 to 0 1;note 2 to 0 0;note 1 to 0 0;");
    s.due("third(3, 4), of two and a farther", y.third(3, 4), 1);
    s.says(53, "NONE, -2 likewise.");
    s.due("third(0, 4)", x.third(0, 4), -1);
    noPairs("third", x::third, bare::third, none::third);
  }

  /** Pages 0 1 by 0, 2 by 4, 3 by 0 again; notes 0 to 2, 0 to 2 again, 2 to 3, 1 to 1, 2 to none; 4 and 1 are dead. */
  private static FootNotes scholars() {
    return Towns.of(Towns.BARE + "book pages 2 by 0;book pages 1 by 4;book pages 1 by 0;note 0 to 1 0;note 0 to 1 0 denies;"
        + "note 2 to 2 0;note 1 to 0 1;note 2 to 2 1;dead 4;dead 1;");
  }

  private void cited() {
    FootNotes x = scholars();
    s.says(54, "How many NOTES lead to PAGES of a SCHOLAR (0 .. 4) now.");
    int[] want = {2, 0, 0, 0, 2};
    for (int n = 0; n < 5; n++) s.due("cited(" + n + ")", x.cited(n), want[n]);
    s.due("cited(0), 24", Towns.of(Towns.BOOK + "note 0 to 0 0;".repeat(24)).cited(0), 24);
    x.tear(0, 0);
    s.due("cited(4) now", x.cited(4), 0);
    s.due("cited(0) without books", bare.cited(0), 0);
    s.says(54, "-2: there is none such, no TOWN.");
    s.due("cited(5)", x.cited(5), -2);
    for (int n : FAR) s.due("cited(" + n + ")", x.cited(n), -2);
    s.due("cited(0)", none.cited(0), -2);
  }

  private void famous() {
    FootNotes x = scholars();
    s.says(55, "The SCHOLAR to whom most lead, the first of several");
    s.due("famous(0), two alike", x.famous(0), 0);
    x.misprint(3, 9);
    s.due("famous(0)", x.famous(0), 4);
    s.says(55, "(dead ones alone, if dead is 1).");
    FootNotes y = scholars();
    s.due("famous(1)", y.famous(1), 4);
    y.misprint(0, 9);
    s.due("famous(1), though more lead to another", y.famous(1), 4);
    s.due("famous(0)", y.famous(0), 0);
    FootNotes z = Towns.of(Towns.BARE + "book pages 1 by 3;book pages 1 by 2;note 0 to 0 0;note 0 to 1 0;dead 2;dead 3;");
    s.due("famous(1), two dead alike", z.famous(1), 2);
    s.says(55, "NONE: there is none such,");
    s.due("famous(1), none is dead", Towns.of(Towns.BOOK + "note 0 to 0 0;").famous(1), -1);
    s.due("famous(1), a dead one without books", Towns.of(Towns.BOOK + "note 0 to 0 0;dead 4;").famous(1), -1);
    s.says(55, "none leads;");
    s.due("famous(0)", Towns.of(Towns.BOOK + "note 0 to 0 1;dead 0;").famous(0), -1);
    s.due("famous(1)", Towns.of(Towns.BOOK + "note 0 to 0 1;dead 0;").famous(1), -1);
    s.due("famous(0) without books", bare.famous(0), -1);
    s.says(55, "-2: dead is not 0, 1, no TOWN.");
    s.due("famous(2)", x.famous(2), -2);
    for (int n : FAR) s.due("famous(" + n + ")", x.famous(n), -2);
    s.due("famous(0)", none.famous(0), -2);
    s.due("famous(1)", none.famous(1), -2);
  }

  private void quotes() {
    FootNotes x = scholars();
    s.says(56, "NOTES that lead from PAGES of one SCHOLAR to those of another one (or his own).");
    for (int a = 0; a < 5; a++)
      for (int b = 0; b < 5; b++)
        s.due("quotes(" + a + ", " + b + ")", x.quotes(a, b), a == 0 && b == 4 ? 2 : a == 0 && b == 0 || a == 4 && b == 0 ? 1 : 0);
    x.tear(2, 0);
    s.due("quotes(4, 0) now", x.quotes(4, 0), 0);
    s.says(56, "-2: there are none such, no TOWN.");
    s.due("quotes(5, 0)", x.quotes(5, 0), -2);
    s.due("quotes(0, 5)", x.quotes(0, 5), -2);
    for (int n : FAR) {
      s.due("quotes(" + n + ", 0)", x.quotes(n, 0), -2);
      s.due("quotes(0, " + n + ")", x.quotes(0, n), -2);
    }
    s.due("quotes(0, 0)", none.quotes(0, 0), -2);
  }

  private static FootNotes odds(int odds, String lines) { return Towns.of("town opens 1 odds " + odds + ";" + lines); }

  private void drawing() {
    s.says("VI", "DRAWS: x becomes (1103515245 x + 12345) modulo 2,147,483,648 (at first it is the seed);");
    String all = "book pages 1 by 0;" + "note 0 to 0 0;".repeat(24);
    for (int odds = 0; odds <= 100; odds++) {
      FootNotes x = odds(odds, all);
      s.due("drawn(1) by " + odds, x.drawn(1), below(FROM_1, odds));
      s.due("drawn(0) by " + odds, x.drawn(0), below(FROM_0, odds));
      s.due("drawn(2000000000) by " + odds, x.drawn(LAST_SEED), below(FROM_LAST, odds));
    }
    s.says("VI", "a draw: x / 65536, cut, modulo 100.");
    // from 0: 12345 / 65536; from 1: 1103527590 / 65536 is 16838
    s.due("drawn(0), the least draw", odds(1, all).drawn(0) & 1, 1);
    s.due("drawn(1), 38 of 16838", odds(39, all).drawn(1) & 1, 1);
    s.due("drawn(1), 38 of 16838", odds(38, all).drawn(1) & 1, 0);
    s.says("VI", "MISPRINTS: for each NOTE (by numbers) a draw: if it is below odds,");
    s.due("odds 0", odds(0, all).drawn(0), 0);
    s.due("odds 100", odds(100, all).drawn(0), (1 << 24) - 1);
    s.due("odds 58, the draw of note 1", odds(58, all).drawn(1) & 2, 0);
    s.due("odds 59, the draw of note 1", odds(59, all).drawn(1) & 2, 2);
    // a note of a torn page has a draw too
    FootNotes y = odds(50, "book pages 2 by 0;note 0 to 0 0;note 1 to 0 1;note 1 to 0 0;");
    y.tear(0, 0);
    s.due("drawn(1), one of a torn page", y.drawn(1), 5);
    s.says("VI", "it says the next LEAF (one more than it says now).");
    FootNotes z = odds(100, "book pages 3 by 0;note 0 to 0 1;fact 2;");
    s.due("shaken(0)", z.shaken(0), 2);
    z.misprint(0, 2);
    s.due("shaken(0), it said the fact's", z.shaken(0), 1);
    z.misprint(0, 29);
    for (int n = 0; n < 27; n++) z.edition(0, 2);
    s.due("way(0), by the 30th leaf", z.way(0), 1);
    s.due("shaken(0), behind the 30th leaf there is none", z.shaken(0), 1);
    s.due("nothing is done", z.note(0, 2), 29);
  }

  private static int below(int[] draws, int odds) {
    int bits = 0;
    for (int n = 0; n < draws.length; n++) if (draws[n] < odds) bits |= 1 << n;
    return bits;
  }

  private void drawn() {
    FootNotes x = odds(50, "book pages 1 by 0;note 0 to 0 0;note 0 to 0 0;");
    s.says(57, "MISPRINTS drawn (VI) from a seed (0 .. 2,000,000,000): NOTES, as bits.");
    s.due("drawn(0)", x.drawn(0), 1);
    s.due("drawn(1)", x.drawn(1), 1);
    s.due("drawn(2000000000)", x.drawn(LAST_SEED), 3);
    s.due("drawn(0) without notes", odds(100, "book pages 1 by 0;").drawn(0), 0);
    s.due("no act", x.count(6), 0);
    s.says(57, "-2: there is no such seed, no TOWN.");
    s.due("drawn(2000000001)", x.drawn(LAST_SEED + 1), -2);
    for (int seed : FAR) s.due("drawn(" + seed + ")", x.drawn(seed), -2);
    s.due("drawn(0)", none.drawn(0), -2);
  }

  private void shaken() {
    s.says(58, "How many PAGES are GROUNDED then.");
    FootNotes x = odds(50, "book pages 4 by 0;note 0 to 0 3;note 1 to 0 3;fact 3;");
    // draws from 1: 38, 58; from the last seed: 4, 33
    s.due("shaken(1)", x.shaken(1), 2);
    s.due("shaken(2000000000)", x.shaken(LAST_SEED), 1);
    s.due("shaken(0), 0 and 68", x.shaken(0), 2);
    s.due("grounded() stays", x.grounded(), 11);
    s.due("shaken(0), the next leaf is the fact's", odds(100, "book pages 2 by 0;note 0 to 0 0;fact 1;").shaken(0), 2);
    s.due("shaken(0) without books", bare.shaken(0), 0);
    x.tear(0, 3);
    s.due("shaken(0), the fact torn out", x.shaken(0), 0);
    s.says(58, "-2 likewise.");
    s.due("shaken(2000000001)", x.shaken(LAST_SEED + 1), -2);
    for (int seed : FAR) s.due("shaken(" + seed + ")", x.shaken(seed), -2);
    s.due("shaken(0)", none.shaken(0), -2);
  }

  private void years() {
    s.says(59, "Of n (1 .. 20) such from seeds, the seed and 1, .., in how many a PAGE is GROUNDED.");
    // page 0 is grounded where the draw is not below the odds
    FootNotes x = odds(43, "book pages 2 by 0;note 0 to 0 1;fact 1;");
    int grounded = 0;
    for (int n = 1; n <= 20; n++) {
      if (BEHIND_LAST[n - 1] >= 43) grounded++;
      s.due("years(2000000000, " + n + ", 0)", x.years(LAST_SEED, n, 0), grounded);
      s.due("years(2000000000, " + n + ", 1), the fact", x.years(LAST_SEED, n, 1), n);
    }
    s.due("years(0, 1, 0), by 0", x.years(0, 1, 0), 0);
    s.due("years(0, 4, 0), by 0 38 8 47", x.years(0, 4, 0), 1);
    FootNotes y = odds(100, "book pages 2 by 0;note 0 to 0 0;fact 1;");
    s.due("years(7, 20, 0), each from what is said now", y.years(7, 20, 0), 20);
    s.due("nothing is done", y.note(0, 2) + y.count(6), 0);
    y.tear(0, 1);
    s.due("years(7, 20, 1), torn out", y.years(7, 20, 1), 0);
    s.says(59, "-2: there are none such.");
    for (int n : new int[] {0, 21, -1, Integer.MIN_VALUE, Integer.MAX_VALUE}) s.due("years(0, " + n + ", 0)", x.years(0, n, 0), -2);
    s.due("years(2000000001, 1, 0)", x.years(LAST_SEED + 1, 1, 0), -2);
    s.due("years(0, 1, 2)", x.years(0, 1, 2), -2);
    for (int n : FAR) {
      s.due("years(" + n + ", 1, 0)", x.years(n, 1, 0), -2);
      s.due("years(0, 1, " + n + ")", x.years(0, 1, n), -2);
    }
    s.due("years(0, 1, 0) without books", bare.years(0, 1, 0), -2);
    s.due("years(0, 1, 0) without a town", none.years(0, 1, 0), -2);
  }
}
